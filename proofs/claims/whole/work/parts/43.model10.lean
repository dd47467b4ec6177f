theorem dX10_does_0 : decode cX10_does 0 = .ok (.aload_n 0, 1) := by decide +kernel
theorem dX10_does_1 : decode cX10_does 1 = .ok (.getfield 35, 3) := by decide +kernel
theorem dX10_does_4 : decode cX10_does 4 = .ok (.iload_n 1, 1) := by decide +kernel
theorem dX10_does_5 : decode cX10_does 5 = .ok (.iconst 1, 1) := by decide +kernel
theorem dX10_does_6 : decode cX10_does 6 = .ok (.iadd, 1) := by decide +kernel
theorem dX10_does_7 : decode cX10_does 7 = .ok (.iaload, 1) := by decide +kernel
theorem dX10_does_8 : decode cX10_does 8 = .ok (.istore_n 2, 1) := by decide +kernel
theorem dX10_does_9 : decode cX10_does 9 = .ok (.aload_n 0, 1) := by decide +kernel
theorem dX10_does_10 : decode cX10_does 10 = .ok (.getfield 35, 3) := by decide +kernel
theorem dX10_does_13 : decode cX10_does 13 = .ok (.iload_n 1, 1) := by decide +kernel
theorem dX10_does_14 : decode cX10_does 14 = .ok (.iconst 2, 1) := by decide +kernel
theorem dX10_does_15 : decode cX10_does 15 = .ok (.iadd, 1) := by decide +kernel
theorem dX10_does_16 : decode cX10_does 16 = .ok (.iaload, 1) := by decide +kernel
theorem dX10_does_17 : decode cX10_does 17 = .ok (.istore_n 3, 1) := by decide +kernel
theorem dX10_does_18 : decode cX10_does 18 = .ok (.aload_n 0, 1) := by decide +kernel
theorem dX10_does_19 : decode cX10_does 19 = .ok (.getfield 35, 3) := by decide +kernel
theorem dX10_does_22 : decode cX10_does 22 = .ok (.iload_n 1, 1) := by decide +kernel
theorem dX10_does_23 : decode cX10_does 23 = .ok (.iaload, 1) := by decide +kernel
theorem dX10_does_24 : decode cX10_does 24 = .ok (.tableswitch 122 103 116 #[72, 122, 122, 122, 122, 109, 116, 122, 93, 122, 122, 86, 101, 79], 72) := by decide +kernel
theorem dX10_does_96 : decode cX10_does 96 = .ok (.aload_n 0, 1) := by decide +kernel
theorem dX10_does_97 : decode cX10_does 97 = .ok (.iload_n 2, 1) := by decide +kernel
theorem dX10_does_98 : decode cX10_does 98 = .ok (.iload_n 3, 1) := by decide +kernel
theorem dX10_does_99 : decode cX10_does 99 = .ok (.invokevirtual 121, 3) := by decide +kernel
theorem dX10_does_102 : decode cX10_does 102 = .ok (.ireturn, 1) := by decide +kernel
theorem dX10_does_146 : decode cX10_does 146 = .ok (.aload_n 0, 1) := by decide +kernel
theorem dX10_does_147 : decode cX10_does 147 = .ok (.iload_n 2, 1) := by decide +kernel
theorem dX10_does_148 : decode cX10_does 148 = .ok (.invokevirtual 142, 3) := by decide +kernel
theorem dX10_does_151 : decode cX10_does 151 = .ok (.ireturn, 1) := by decide +kernel
theorem dX10_does_133 : decode cX10_does 133 = .ok (.aload_n 0, 1) := by decide +kernel
theorem dX10_does_134 : decode cX10_does 134 = .ok (.iload_n 2, 1) := by decide +kernel
theorem dX10_does_135 : decode cX10_does 135 = .ok (.iload_n 3, 1) := by decide +kernel
theorem dX10_does_136 : decode cX10_does 136 = .ok (.invokevirtual 96, 3) := by decide +kernel
theorem dX10_does_139 : decode cX10_does 139 = .ok (.ireturn, 1) := by decide +kernel
theorem dX10_does_140 : decode cX10_does 140 = .ok (.aload_n 0, 1) := by decide +kernel
theorem dX10_does_141 : decode cX10_does 141 = .ok (.iload_n 2, 1) := by decide +kernel
theorem dX10_does_142 : decode cX10_does 142 = .ok (.invokevirtual 136, 3) := by decide +kernel
theorem dX10_does_145 : decode cX10_does 145 = .ok (.ireturn, 1) := by decide +kernel
theorem dX10_does_117 : decode cX10_does 117 = .ok (.aload_n 0, 1) := by decide +kernel
theorem dX10_does_118 : decode cX10_does 118 = .ok (.iload_n 2, 1) := by decide +kernel
theorem dX10_does_119 : decode cX10_does 119 = .ok (.iload_n 3, 1) := by decide +kernel
theorem dX10_does_120 : decode cX10_does 120 = .ok (.iconst 1, 1) := by decide +kernel
theorem dX10_does_121 : decode cX10_does 121 = .ok (.invokevirtual 92, 3) := by decide +kernel
theorem dX10_does_124 : decode cX10_does 124 = .ok (.ireturn, 1) := by decide +kernel
theorem dX10_does_110 : decode cX10_does 110 = .ok (.aload_n 0, 1) := by decide +kernel
theorem dX10_does_111 : decode cX10_does 111 = .ok (.iload_n 2, 1) := by decide +kernel
theorem dX10_does_112 : decode cX10_does 112 = .ok (.iload_n 3, 1) := by decide +kernel
theorem dX10_does_113 : decode cX10_does 113 = .ok (.invokevirtual 133, 3) := by decide +kernel
theorem dX10_does_116 : decode cX10_does 116 = .ok (.ireturn, 1) := by decide +kernel
theorem dX10_does_125 : decode cX10_does 125 = .ok (.aload_n 0, 1) := by decide +kernel
theorem dX10_does_126 : decode cX10_does 126 = .ok (.iload_n 2, 1) := by decide +kernel
theorem dX10_does_127 : decode cX10_does 127 = .ok (.iload_n 3, 1) := by decide +kernel
theorem dX10_does_128 : decode cX10_does 128 = .ok (.iconst 0, 1) := by decide +kernel
theorem dX10_does_129 : decode cX10_does 129 = .ok (.invokevirtual 92, 3) := by decide +kernel
theorem dX10_does_132 : decode cX10_does 132 = .ok (.ireturn, 1) := by decide +kernel
theorem dX10_does_103 : decode cX10_does 103 = .ok (.aload_n 0, 1) := by decide +kernel
theorem dX10_does_104 : decode cX10_does 104 = .ok (.iload_n 2, 1) := by decide +kernel
theorem dX10_does_105 : decode cX10_does 105 = .ok (.iload_n 3, 1) := by decide +kernel
theorem dX10_does_106 : decode cX10_does 106 = .ok (.invokevirtual 124, 3) := by decide +kernel
theorem dX10_does_109 : decode cX10_does 109 = .ok (.ireturn, 1) := by decide +kernel
def f_X10_does (d : MoV) (i : Int32) : Int32 × MoV := (if (d.2.2.2.2.2.2.2.2.2.2.2.2.2.1 i.toNatClampNeg) = (103 : Int32) then (let u_7 : Int32 × MoV := (f_X10_gives d (d.2.2.2.2.2.2.2.2.2.2.2.2.2.1 (i + (1 : Int32)).toNatClampNeg) (d.2.2.2.2.2.2.2.2.2.2.2.2.2.1 (i + (2 : Int32)).toNatClampNeg)); (u_7.1, u_7.2)) else (if (d.2.2.2.2.2.2.2.2.2.2.2.2.2.1 i.toNatClampNeg) = (104 : Int32) then (let u_11 : Int32 × MoV := (f_X10_waits d (d.2.2.2.2.2.2.2.2.2.2.2.2.2.1 (i + (1 : Int32)).toNatClampNeg)); (u_11.1, u_11.2)) else (if (d.2.2.2.2.2.2.2.2.2.2.2.2.2.1 i.toNatClampNeg) = (105 : Int32) then (let u_15 : Int32 × MoV := (f_X10_waits d (d.2.2.2.2.2.2.2.2.2.2.2.2.2.1 (i + (1 : Int32)).toNatClampNeg)); (u_15.1, u_15.2)) else (if (d.2.2.2.2.2.2.2.2.2.2.2.2.2.1 i.toNatClampNeg) = (106 : Int32) then (let u_19 : Int32 × MoV := (f_X10_waits d (d.2.2.2.2.2.2.2.2.2.2.2.2.2.1 (i + (1 : Int32)).toNatClampNeg)); (u_19.1, u_19.2)) else (if (d.2.2.2.2.2.2.2.2.2.2.2.2.2.1 i.toNatClampNeg) = (107 : Int32) then (let u_23 : Int32 × MoV := (f_X10_waits d (d.2.2.2.2.2.2.2.2.2.2.2.2.2.1 (i + (1 : Int32)).toNatClampNeg)); (u_23.1, u_23.2)) else (if (d.2.2.2.2.2.2.2.2.2.2.2.2.2.1 i.toNatClampNeg) = (108 : Int32) then (let u_27 : Int32 × MoV := (f_X10_lifts d (d.2.2.2.2.2.2.2.2.2.2.2.2.2.1 (i + (1 : Int32)).toNatClampNeg) (d.2.2.2.2.2.2.2.2.2.2.2.2.2.1 (i + (2 : Int32)).toNatClampNeg)); (u_27.1, u_27.2)) else (if (d.2.2.2.2.2.2.2.2.2.2.2.2.2.1 i.toNatClampNeg) = (109 : Int32) then (let u_30 : Int32 × MoV := (f_X10_moons d (d.2.2.2.2.2.2.2.2.2.2.2.2.2.1 (i + (1 : Int32)).toNatClampNeg)); (u_30.1, u_30.2)) else (if (d.2.2.2.2.2.2.2.2.2.2.2.2.2.1 i.toNatClampNeg) = (110 : Int32) then (let u_34 : Int32 × MoV := (f_X10_waits d (d.2.2.2.2.2.2.2.2.2.2.2.2.2.1 (i + (1 : Int32)).toNatClampNeg)); (u_34.1, u_34.2)) else (if (d.2.2.2.2.2.2.2.2.2.2.2.2.2.1 i.toNatClampNeg) = (111 : Int32) then (let u_38 : Int32 × MoV := (f_X10_excepts d (d.2.2.2.2.2.2.2.2.2.2.2.2.2.1 (i + (1 : Int32)).toNatClampNeg) (d.2.2.2.2.2.2.2.2.2.2.2.2.2.1 (i + (2 : Int32)).toNatClampNeg) (1 : Int32)); (u_38.1, u_38.2)) else (if (d.2.2.2.2.2.2.2.2.2.2.2.2.2.1 i.toNatClampNeg) = (112 : Int32) then (let u_42 : Int32 × MoV := (f_X10_waits d (d.2.2.2.2.2.2.2.2.2.2.2.2.2.1 (i + (1 : Int32)).toNatClampNeg)); (u_42.1, u_42.2)) else (if (d.2.2.2.2.2.2.2.2.2.2.2.2.2.1 i.toNatClampNeg) = (113 : Int32) then (let u_46 : Int32 × MoV := (f_X10_waits d (d.2.2.2.2.2.2.2.2.2.2.2.2.2.1 (i + (1 : Int32)).toNatClampNeg)); (u_46.1, u_46.2)) else (if (d.2.2.2.2.2.2.2.2.2.2.2.2.2.1 i.toNatClampNeg) = (114 : Int32) then (let u_50 : Int32 × MoV := (f_X10_tries d (d.2.2.2.2.2.2.2.2.2.2.2.2.2.1 (i + (1 : Int32)).toNatClampNeg) (d.2.2.2.2.2.2.2.2.2.2.2.2.2.1 (i + (2 : Int32)).toNatClampNeg)); (u_50.1, u_50.2)) else (if (d.2.2.2.2.2.2.2.2.2.2.2.2.2.1 i.toNatClampNeg) = (115 : Int32) then (let u_54 : Int32 × MoV := (f_X10_excepts d (d.2.2.2.2.2.2.2.2.2.2.2.2.2.1 (i + (1 : Int32)).toNatClampNeg) (d.2.2.2.2.2.2.2.2.2.2.2.2.2.1 (i + (2 : Int32)).toNatClampNeg) (0 : Int32)); (u_54.1, u_54.2)) else (if (d.2.2.2.2.2.2.2.2.2.2.2.2.2.1 i.toNatClampNeg) = (116 : Int32) then (let u_58 : Int32 × MoV := (f_X10_takes d (d.2.2.2.2.2.2.2.2.2.2.2.2.2.1 (i + (1 : Int32)).toNatClampNeg) (d.2.2.2.2.2.2.2.2.2.2.2.2.2.1 (i + (2 : Int32)).toNatClampNeg)); (u_58.1, u_58.2)) else (let u_61 : Int32 × MoV := (f_X10_waits d (d.2.2.2.2.2.2.2.2.2.2.2.2.2.1 (i + (1 : Int32)).toNatClampNeg)); (u_61.1, u_61.2))))))))))))))))
def ok_X10_does (d : MoV) (i : Int32) : Prop := (vp_in (i + (1 : Int32)) 93 ∧ (vp_in (i + (2 : Int32)) 93 ∧ (vp_in i 93 ∧ (if (d.2.2.2.2.2.2.2.2.2.2.2.2.2.1 i.toNatClampNeg) = (103 : Int32) then (ok_X10_gives d (d.2.2.2.2.2.2.2.2.2.2.2.2.2.1 (i + (1 : Int32)).toNatClampNeg) (d.2.2.2.2.2.2.2.2.2.2.2.2.2.1 (i + (2 : Int32)).toNatClampNeg) ∧ True) else (if (d.2.2.2.2.2.2.2.2.2.2.2.2.2.1 i.toNatClampNeg) = (104 : Int32) then (ok_X10_waits d (d.2.2.2.2.2.2.2.2.2.2.2.2.2.1 (i + (1 : Int32)).toNatClampNeg) ∧ True) else (if (d.2.2.2.2.2.2.2.2.2.2.2.2.2.1 i.toNatClampNeg) = (105 : Int32) then (ok_X10_waits d (d.2.2.2.2.2.2.2.2.2.2.2.2.2.1 (i + (1 : Int32)).toNatClampNeg) ∧ True) else (if (d.2.2.2.2.2.2.2.2.2.2.2.2.2.1 i.toNatClampNeg) = (106 : Int32) then (ok_X10_waits d (d.2.2.2.2.2.2.2.2.2.2.2.2.2.1 (i + (1 : Int32)).toNatClampNeg) ∧ True) else (if (d.2.2.2.2.2.2.2.2.2.2.2.2.2.1 i.toNatClampNeg) = (107 : Int32) then (ok_X10_waits d (d.2.2.2.2.2.2.2.2.2.2.2.2.2.1 (i + (1 : Int32)).toNatClampNeg) ∧ True) else (if (d.2.2.2.2.2.2.2.2.2.2.2.2.2.1 i.toNatClampNeg) = (108 : Int32) then (ok_X10_lifts d (d.2.2.2.2.2.2.2.2.2.2.2.2.2.1 (i + (1 : Int32)).toNatClampNeg) (d.2.2.2.2.2.2.2.2.2.2.2.2.2.1 (i + (2 : Int32)).toNatClampNeg) ∧ True) else (if (d.2.2.2.2.2.2.2.2.2.2.2.2.2.1 i.toNatClampNeg) = (109 : Int32) then True else (if (d.2.2.2.2.2.2.2.2.2.2.2.2.2.1 i.toNatClampNeg) = (110 : Int32) then (ok_X10_waits d (d.2.2.2.2.2.2.2.2.2.2.2.2.2.1 (i + (1 : Int32)).toNatClampNeg) ∧ True) else (if (d.2.2.2.2.2.2.2.2.2.2.2.2.2.1 i.toNatClampNeg) = (111 : Int32) then (ok_X10_excepts d (d.2.2.2.2.2.2.2.2.2.2.2.2.2.1 (i + (1 : Int32)).toNatClampNeg) (d.2.2.2.2.2.2.2.2.2.2.2.2.2.1 (i + (2 : Int32)).toNatClampNeg) (1 : Int32) ∧ True) else (if (d.2.2.2.2.2.2.2.2.2.2.2.2.2.1 i.toNatClampNeg) = (112 : Int32) then (ok_X10_waits d (d.2.2.2.2.2.2.2.2.2.2.2.2.2.1 (i + (1 : Int32)).toNatClampNeg) ∧ True) else (if (d.2.2.2.2.2.2.2.2.2.2.2.2.2.1 i.toNatClampNeg) = (113 : Int32) then (ok_X10_waits d (d.2.2.2.2.2.2.2.2.2.2.2.2.2.1 (i + (1 : Int32)).toNatClampNeg) ∧ True) else (if (d.2.2.2.2.2.2.2.2.2.2.2.2.2.1 i.toNatClampNeg) = (114 : Int32) then (ok_X10_tries d (d.2.2.2.2.2.2.2.2.2.2.2.2.2.1 (i + (1 : Int32)).toNatClampNeg) (d.2.2.2.2.2.2.2.2.2.2.2.2.2.1 (i + (2 : Int32)).toNatClampNeg) ∧ True) else (if (d.2.2.2.2.2.2.2.2.2.2.2.2.2.1 i.toNatClampNeg) = (115 : Int32) then (ok_X10_excepts d (d.2.2.2.2.2.2.2.2.2.2.2.2.2.1 (i + (1 : Int32)).toNatClampNeg) (d.2.2.2.2.2.2.2.2.2.2.2.2.2.1 (i + (2 : Int32)).toNatClampNeg) (0 : Int32) ∧ True) else (if (d.2.2.2.2.2.2.2.2.2.2.2.2.2.1 i.toNatClampNeg) = (116 : Int32) then (ok_X10_takes d (d.2.2.2.2.2.2.2.2.2.2.2.2.2.1 (i + (1 : Int32)).toNatClampNeg) (d.2.2.2.2.2.2.2.2.2.2.2.2.2.1 (i + (2 : Int32)).toNatClampNeg) ∧ True) else (ok_X10_waits d (d.2.2.2.2.2.2.2.2.2.2.2.2.2.1 (i + (1 : Int32)).toNatClampNeg) ∧ True))))))))))))))))))
set_option maxHeartbeats 4000000 in
set_option maxRecDepth 100000 in
theorem c_X10_does (l : Launch) (G : GG) (dh0 : Nat) (dh1 : Nat) (dh2 : Nat) (dh3 : Nat) (dh4 : Nat) (dh5 : Nat) (dh6 : Nat) (dh7 : Nat) (sz : Nat) (d : MoV) (i : Int32) (hok : ok_X10_does d i) : wMet l yX10_does cX10_does 4 (some .int) 6 0 0 G (fl [wMo G dh0 dh1 dh2 dh3 dh4 dh5 dh6 dh7 d]) [.ref dh0, .int i] sz (fun u : Int32 × MoV => some (.int u.1)) (fun u : Int32 × MoV => u = f_X10_does d i) (fun u : Int32 × MoV => fl [wMo G dh0 dh1 dh2 dh3 dh4 dh5 dh6 dh7 u.2]) := by
  refine w_start (by decide +kernel) (Nat.le_of_ble_eq_true rfl) ?_
  intro p e s m below meth c A hx hb hr hml hts hown hlk hin hP hD hA hK hST ls hl
  have hS : va_S A s.heap s.heap [] := va_S.rf
  have hown : s.vm.findClass RX10 = some m.cls := hown
  have hl : lv_has ls 4 [(0, .ref dh0), (1, .int i)] := hl
  have hF : f_X10_does d i = (if (d.2.2.2.2.2.2.2.2.2.2.2.2.2.1 i.toNatClampNeg) = (103 : Int32) then (let u_7 : Int32 × MoV := (f_X10_gives d (d.2.2.2.2.2.2.2.2.2.2.2.2.2.1 (i + (1 : Int32)).toNatClampNeg) (d.2.2.2.2.2.2.2.2.2.2.2.2.2.1 (i + (2 : Int32)).toNatClampNeg)); (u_7.1, u_7.2)) else (if (d.2.2.2.2.2.2.2.2.2.2.2.2.2.1 i.toNatClampNeg) = (104 : Int32) then (let u_11 : Int32 × MoV := (f_X10_waits d (d.2.2.2.2.2.2.2.2.2.2.2.2.2.1 (i + (1 : Int32)).toNatClampNeg)); (u_11.1, u_11.2)) else (if (d.2.2.2.2.2.2.2.2.2.2.2.2.2.1 i.toNatClampNeg) = (105 : Int32) then (let u_15 : Int32 × MoV := (f_X10_waits d (d.2.2.2.2.2.2.2.2.2.2.2.2.2.1 (i + (1 : Int32)).toNatClampNeg)); (u_15.1, u_15.2)) else (if (d.2.2.2.2.2.2.2.2.2.2.2.2.2.1 i.toNatClampNeg) = (106 : Int32) then (let u_19 : Int32 × MoV := (f_X10_waits d (d.2.2.2.2.2.2.2.2.2.2.2.2.2.1 (i + (1 : Int32)).toNatClampNeg)); (u_19.1, u_19.2)) else (if (d.2.2.2.2.2.2.2.2.2.2.2.2.2.1 i.toNatClampNeg) = (107 : Int32) then (let u_23 : Int32 × MoV := (f_X10_waits d (d.2.2.2.2.2.2.2.2.2.2.2.2.2.1 (i + (1 : Int32)).toNatClampNeg)); (u_23.1, u_23.2)) else (if (d.2.2.2.2.2.2.2.2.2.2.2.2.2.1 i.toNatClampNeg) = (108 : Int32) then (let u_27 : Int32 × MoV := (f_X10_lifts d (d.2.2.2.2.2.2.2.2.2.2.2.2.2.1 (i + (1 : Int32)).toNatClampNeg) (d.2.2.2.2.2.2.2.2.2.2.2.2.2.1 (i + (2 : Int32)).toNatClampNeg)); (u_27.1, u_27.2)) else (if (d.2.2.2.2.2.2.2.2.2.2.2.2.2.1 i.toNatClampNeg) = (109 : Int32) then (let u_30 : Int32 × MoV := (f_X10_moons d (d.2.2.2.2.2.2.2.2.2.2.2.2.2.1 (i + (1 : Int32)).toNatClampNeg)); (u_30.1, u_30.2)) else (if (d.2.2.2.2.2.2.2.2.2.2.2.2.2.1 i.toNatClampNeg) = (110 : Int32) then (let u_34 : Int32 × MoV := (f_X10_waits d (d.2.2.2.2.2.2.2.2.2.2.2.2.2.1 (i + (1 : Int32)).toNatClampNeg)); (u_34.1, u_34.2)) else (if (d.2.2.2.2.2.2.2.2.2.2.2.2.2.1 i.toNatClampNeg) = (111 : Int32) then (let u_38 : Int32 × MoV := (f_X10_excepts d (d.2.2.2.2.2.2.2.2.2.2.2.2.2.1 (i + (1 : Int32)).toNatClampNeg) (d.2.2.2.2.2.2.2.2.2.2.2.2.2.1 (i + (2 : Int32)).toNatClampNeg) (1 : Int32)); (u_38.1, u_38.2)) else (if (d.2.2.2.2.2.2.2.2.2.2.2.2.2.1 i.toNatClampNeg) = (112 : Int32) then (let u_42 : Int32 × MoV := (f_X10_waits d (d.2.2.2.2.2.2.2.2.2.2.2.2.2.1 (i + (1 : Int32)).toNatClampNeg)); (u_42.1, u_42.2)) else (if (d.2.2.2.2.2.2.2.2.2.2.2.2.2.1 i.toNatClampNeg) = (113 : Int32) then (let u_46 : Int32 × MoV := (f_X10_waits d (d.2.2.2.2.2.2.2.2.2.2.2.2.2.1 (i + (1 : Int32)).toNatClampNeg)); (u_46.1, u_46.2)) else (if (d.2.2.2.2.2.2.2.2.2.2.2.2.2.1 i.toNatClampNeg) = (114 : Int32) then (let u_50 : Int32 × MoV := (f_X10_tries d (d.2.2.2.2.2.2.2.2.2.2.2.2.2.1 (i + (1 : Int32)).toNatClampNeg) (d.2.2.2.2.2.2.2.2.2.2.2.2.2.1 (i + (2 : Int32)).toNatClampNeg)); (u_50.1, u_50.2)) else (if (d.2.2.2.2.2.2.2.2.2.2.2.2.2.1 i.toNatClampNeg) = (115 : Int32) then (let u_54 : Int32 × MoV := (f_X10_excepts d (d.2.2.2.2.2.2.2.2.2.2.2.2.2.1 (i + (1 : Int32)).toNatClampNeg) (d.2.2.2.2.2.2.2.2.2.2.2.2.2.1 (i + (2 : Int32)).toNatClampNeg) (0 : Int32)); (u_54.1, u_54.2)) else (if (d.2.2.2.2.2.2.2.2.2.2.2.2.2.1 i.toNatClampNeg) = (116 : Int32) then (let u_58 : Int32 × MoV := (f_X10_takes d (d.2.2.2.2.2.2.2.2.2.2.2.2.2.1 (i + (1 : Int32)).toNatClampNeg) (d.2.2.2.2.2.2.2.2.2.2.2.2.2.1 (i + (2 : Int32)).toNatClampNeg)); (u_58.1, u_58.2)) else (let u_61 : Int32 × MoV := (f_X10_waits d (d.2.2.2.2.2.2.2.2.2.2.2.2.2.1 (i + (1 : Int32)).toNatClampNeg)); (u_61.1, u_61.2)))))))))))))))) := rfl
  have hok : (vp_in (i + (1 : Int32)) 93 ∧ (vp_in (i + (2 : Int32)) 93 ∧ (vp_in i 93 ∧ (if (d.2.2.2.2.2.2.2.2.2.2.2.2.2.1 i.toNatClampNeg) = (103 : Int32) then (ok_X10_gives d (d.2.2.2.2.2.2.2.2.2.2.2.2.2.1 (i + (1 : Int32)).toNatClampNeg) (d.2.2.2.2.2.2.2.2.2.2.2.2.2.1 (i + (2 : Int32)).toNatClampNeg) ∧ True) else (if (d.2.2.2.2.2.2.2.2.2.2.2.2.2.1 i.toNatClampNeg) = (104 : Int32) then (ok_X10_waits d (d.2.2.2.2.2.2.2.2.2.2.2.2.2.1 (i + (1 : Int32)).toNatClampNeg) ∧ True) else (if (d.2.2.2.2.2.2.2.2.2.2.2.2.2.1 i.toNatClampNeg) = (105 : Int32) then (ok_X10_waits d (d.2.2.2.2.2.2.2.2.2.2.2.2.2.1 (i + (1 : Int32)).toNatClampNeg) ∧ True) else (if (d.2.2.2.2.2.2.2.2.2.2.2.2.2.1 i.toNatClampNeg) = (106 : Int32) then (ok_X10_waits d (d.2.2.2.2.2.2.2.2.2.2.2.2.2.1 (i + (1 : Int32)).toNatClampNeg) ∧ True) else (if (d.2.2.2.2.2.2.2.2.2.2.2.2.2.1 i.toNatClampNeg) = (107 : Int32) then (ok_X10_waits d (d.2.2.2.2.2.2.2.2.2.2.2.2.2.1 (i + (1 : Int32)).toNatClampNeg) ∧ True) else (if (d.2.2.2.2.2.2.2.2.2.2.2.2.2.1 i.toNatClampNeg) = (108 : Int32) then (ok_X10_lifts d (d.2.2.2.2.2.2.2.2.2.2.2.2.2.1 (i + (1 : Int32)).toNatClampNeg) (d.2.2.2.2.2.2.2.2.2.2.2.2.2.1 (i + (2 : Int32)).toNatClampNeg) ∧ True) else (if (d.2.2.2.2.2.2.2.2.2.2.2.2.2.1 i.toNatClampNeg) = (109 : Int32) then True else (if (d.2.2.2.2.2.2.2.2.2.2.2.2.2.1 i.toNatClampNeg) = (110 : Int32) then (ok_X10_waits d (d.2.2.2.2.2.2.2.2.2.2.2.2.2.1 (i + (1 : Int32)).toNatClampNeg) ∧ True) else (if (d.2.2.2.2.2.2.2.2.2.2.2.2.2.1 i.toNatClampNeg) = (111 : Int32) then (ok_X10_excepts d (d.2.2.2.2.2.2.2.2.2.2.2.2.2.1 (i + (1 : Int32)).toNatClampNeg) (d.2.2.2.2.2.2.2.2.2.2.2.2.2.1 (i + (2 : Int32)).toNatClampNeg) (1 : Int32) ∧ True) else (if (d.2.2.2.2.2.2.2.2.2.2.2.2.2.1 i.toNatClampNeg) = (112 : Int32) then (ok_X10_waits d (d.2.2.2.2.2.2.2.2.2.2.2.2.2.1 (i + (1 : Int32)).toNatClampNeg) ∧ True) else (if (d.2.2.2.2.2.2.2.2.2.2.2.2.2.1 i.toNatClampNeg) = (113 : Int32) then (ok_X10_waits d (d.2.2.2.2.2.2.2.2.2.2.2.2.2.1 (i + (1 : Int32)).toNatClampNeg) ∧ True) else (if (d.2.2.2.2.2.2.2.2.2.2.2.2.2.1 i.toNatClampNeg) = (114 : Int32) then (ok_X10_tries d (d.2.2.2.2.2.2.2.2.2.2.2.2.2.1 (i + (1 : Int32)).toNatClampNeg) (d.2.2.2.2.2.2.2.2.2.2.2.2.2.1 (i + (2 : Int32)).toNatClampNeg) ∧ True) else (if (d.2.2.2.2.2.2.2.2.2.2.2.2.2.1 i.toNatClampNeg) = (115 : Int32) then (ok_X10_excepts d (d.2.2.2.2.2.2.2.2.2.2.2.2.2.1 (i + (1 : Int32)).toNatClampNeg) (d.2.2.2.2.2.2.2.2.2.2.2.2.2.1 (i + (2 : Int32)).toNatClampNeg) (0 : Int32) ∧ True) else (if (d.2.2.2.2.2.2.2.2.2.2.2.2.2.1 i.toNatClampNeg) = (116 : Int32) then (ok_X10_takes d (d.2.2.2.2.2.2.2.2.2.2.2.2.2.1 (i + (1 : Int32)).toNatClampNeg) (d.2.2.2.2.2.2.2.2.2.2.2.2.2.1 (i + (2 : Int32)).toNatClampNeg) ∧ True) else (ok_X10_waits d (d.2.2.2.2.2.2.2.2.2.2.2.2.2.1 (i + (1 : Int32)).toNatClampNeg) ∧ True)))))))))))))))))) := hok
  refine lv_aload_n hx hb dX10_does_0 rfl (lv_at hl 0 rfl) ?_
  refine va_get (D := G.1) (ci := 12) (v := .ref dh7) (C := RX10) (T := TX10) (N := 17) hx hb hts uws_X10 hown hK hP 0 rfl rfl 13 (by decide) (hts _ u_1693) (fun _ h9 => h9) rfl dX10_does_1 ?_
  refine lv_iload_n hx hb dX10_does_4 rfl (lv_at hl 1 rfl) ?_
  refine lv_iconst (v := (1 : Int32)) hx hb dX10_does_5 (by decide) ?_
  refine lv_iadd hx hb dX10_does_6 ?_
  have h_1 := hok.1
  have hok := hok.2
  refine va_iald hx hb hK hP 7 0 rfl rfl h_1 dX10_does_7 ?_
  refine lv_istore_n (lv' := [(2, .int (d.2.2.2.2.2.2.2.2.2.2.2.2.2.1 (i + (1 : Int32)).toNatClampNeg)), (0, .ref dh0), (1, .int i)]) hx hb dX10_does_8 rfl hl (by decide) rfl (fun ls hl => ?_)
  refine lv_aload_n hx hb dX10_does_9 rfl (lv_at hl 1 rfl) ?_
  refine va_get (D := G.1) (ci := 12) (v := .ref dh7) (C := RX10) (T := TX10) (N := 17) hx hb hts uws_X10 hown hK hP 0 rfl rfl 13 (by decide) (hts _ u_1693) (fun _ h9 => h9) rfl dX10_does_10 ?_
  refine lv_iload_n hx hb dX10_does_13 rfl (lv_at hl 2 rfl) ?_
  refine lv_iconst (v := (2 : Int32)) hx hb dX10_does_14 (by decide) ?_
  refine lv_iadd hx hb dX10_does_15 ?_
  have h_2 := hok.1
  have hok := hok.2
  refine va_iald hx hb hK hP 7 0 rfl rfl h_2 dX10_does_16 ?_
  refine lv_istore_n (lv' := [(3, .int (d.2.2.2.2.2.2.2.2.2.2.2.2.2.1 (i + (2 : Int32)).toNatClampNeg)), (2, .int (d.2.2.2.2.2.2.2.2.2.2.2.2.2.1 (i + (1 : Int32)).toNatClampNeg)), (0, .ref dh0), (1, .int i)]) hx hb dX10_does_17 rfl hl (by decide) rfl (fun ls hl => ?_)
  refine lv_aload_n hx hb dX10_does_18 rfl (lv_at hl 2 rfl) ?_
  refine va_get (D := G.1) (ci := 12) (v := .ref dh7) (C := RX10) (T := TX10) (N := 17) hx hb hts uws_X10 hown hK hP 0 rfl rfl 13 (by decide) (hts _ u_1693) (fun _ h9 => h9) rfl dX10_does_19 ?_
  refine lv_iload_n hx hb dX10_does_22 rfl (lv_at hl 3 rfl) ?_
  have h_3 := hok.1
  have hok := hok.2
  refine va_iald hx hb hK hP 7 0 rfl rfl h_3 dX10_does_23 ?_
  by_cases c_4 : (d.2.2.2.2.2.2.2.2.2.2.2.2.2.1 i.toNatClampNeg) = (103 : Int32)
  · have hF := hF.trans (if_pos c_4)
    have hok := Eq.mp (if_pos c_4) hok
    refine lv_tableIn (off := 72) (tgt := 96) hx hb dX10_does_24 (by rw [c_4]; decide) (by rw [c_4]; decide) (by rw [c_4]; rfl) (by decide) ?_
    refine lv_aload_n hx hb dX10_does_96 rfl (lv_at hl 2 rfl) ?_
    refine lv_iload_n hx hb dX10_does_97 rfl (lv_at hl 1 rfl) ?_
    refine lv_iload_n hx hb dX10_does_98 rfl (lv_at hl 0 rfl) ?_
    have k_5 := hok.1
    have hok := hok.2
    refine w_V (own := RX10) (cs := [wMo G dh0 dh1 dh2 dh3 dh4 dh5 dh6 dh7 d]) (rs := []) (As := [.int (d.2.2.2.2.2.2.2.2.2.2.2.2.2.1 (i + (1 : Int32)).toNatClampNeg), .int (d.2.2.2.2.2.2.2.2.2.2.2.2.2.1 (i + (2 : Int32)).toNatClampNeg)]) (rest := []) (c_X10_gives l G dh0 dh1 dh2 dh3 dh4 dh5 dh6 dh7 s.heap.size d (d.2.2.2.2.2.2.2.2.2.2.2.2.2.1 (i + (1 : Int32)).toNatClampNeg) (d.2.2.2.2.2.2.2.2.2.2.2.2.2.1 (i + (2 : Int32)).toNatClampNeg) k_5) ⟨hx, hb, hml, hown, hts⟩ g_X10_121 hdv_X10_gives hK hST hS hP hD hA [0] [] rfl rfl rfl (k0 := 0) rfl rfl rfl ⟨Nat.le_of_ble_eq_true rfl, Nat.le_of_ble_eq_true rfl⟩ ⟨Nat.le_of_ble_eq_true rfl, Nat.le_of_ble_eq_true rfl⟩ rfl hl.1 rfl (Nat.le_of_ble_eq_true rfl) dX10_does_99 (fun u_7 H locs huu hP hD hS => ?_)
    have eu_7 := huu
    have hP : va_P G.1 vwCl (fl [wMo G dh0 dh1 dh2 dh3 dh4 dh5 dh6 dh7 u_7.2]) H := hP
    have hD : va_D A (fl [wMo G dh0 dh1 dh2 dh3 dh4 dh5 dh6 dh7 u_7.2]) := hD
    refine W.eq (g2 := F0 m 102 ls [.int u_7.1]) rfl ?_
    have hF : f_X10_does d i = (u_7.1, u_7.2) := by subst eu_7; exact hF
    exact w_ret (u := (u_7.1, u_7.2)) hx hb hr hlk rfl hS rfl hF.symm hP hD (Nat.le_of_ble_eq_true rfl) (Nat.le_of_ble_eq_true rfl) dX10_does_102
  · have hF := hF.trans (if_neg c_4)
    have hok := Eq.mp (if_neg c_4) hok
    by_cases c_8 : (d.2.2.2.2.2.2.2.2.2.2.2.2.2.1 i.toNatClampNeg) = (104 : Int32)
    · have hF := hF.trans (if_pos c_8)
      have hok := Eq.mp (if_pos c_8) hok
      refine lv_tableIn (off := 122) (tgt := 146) hx hb dX10_does_24 (by rw [c_8]; decide) (by rw [c_8]; decide) (by rw [c_8]; rfl) (by decide) ?_
      refine lv_aload_n hx hb dX10_does_146 rfl (lv_at hl 2 rfl) ?_
      refine lv_iload_n hx hb dX10_does_147 rfl (lv_at hl 1 rfl) ?_
      have k_9 := hok.1
      have hok := hok.2
      refine w_V (own := RX10) (cs := [wMo G dh0 dh1 dh2 dh3 dh4 dh5 dh6 dh7 d]) (rs := []) (As := [.int (d.2.2.2.2.2.2.2.2.2.2.2.2.2.1 (i + (1 : Int32)).toNatClampNeg)]) (rest := []) (c_X10_waits l G dh0 dh1 dh2 dh3 dh4 dh5 dh6 dh7 s.heap.size d (d.2.2.2.2.2.2.2.2.2.2.2.2.2.1 (i + (1 : Int32)).toNatClampNeg) k_9) ⟨hx, hb, hml, hown, hts⟩ g_X10_142 hdv_X10_waits hK hST hS hP hD hA [0] [] rfl rfl rfl (k0 := 0) rfl rfl rfl ⟨Nat.le_of_ble_eq_true rfl, Nat.le_of_ble_eq_true rfl⟩ ⟨Nat.le_of_ble_eq_true rfl, Nat.le_of_ble_eq_true rfl⟩ rfl hl.1 rfl (Nat.le_of_ble_eq_true rfl) dX10_does_148 (fun u_11 H locs huu hP hD hS => ?_)
      have eu_11 := huu
      have hP : va_P G.1 vwCl (fl [wMo G dh0 dh1 dh2 dh3 dh4 dh5 dh6 dh7 u_11.2]) H := hP
      have hD : va_D A (fl [wMo G dh0 dh1 dh2 dh3 dh4 dh5 dh6 dh7 u_11.2]) := hD
      refine W.eq (g2 := F0 m 151 ls [.int u_11.1]) rfl ?_
      have hF : f_X10_does d i = (u_11.1, u_11.2) := by subst eu_11; exact hF
      exact w_ret (u := (u_11.1, u_11.2)) hx hb hr hlk rfl hS rfl hF.symm hP hD (Nat.le_of_ble_eq_true rfl) (Nat.le_of_ble_eq_true rfl) dX10_does_151
    · have hF := hF.trans (if_neg c_8)
      have hok := Eq.mp (if_neg c_8) hok
      by_cases c_12 : (d.2.2.2.2.2.2.2.2.2.2.2.2.2.1 i.toNatClampNeg) = (105 : Int32)
      · have hF := hF.trans (if_pos c_12)
        have hok := Eq.mp (if_pos c_12) hok
        refine lv_tableIn (off := 122) (tgt := 146) hx hb dX10_does_24 (by rw [c_12]; decide) (by rw [c_12]; decide) (by rw [c_12]; rfl) (by decide) ?_
        refine lv_aload_n hx hb dX10_does_146 rfl (lv_at hl 2 rfl) ?_
        refine lv_iload_n hx hb dX10_does_147 rfl (lv_at hl 1 rfl) ?_
        have k_13 := hok.1
        have hok := hok.2
        refine w_V (own := RX10) (cs := [wMo G dh0 dh1 dh2 dh3 dh4 dh5 dh6 dh7 d]) (rs := []) (As := [.int (d.2.2.2.2.2.2.2.2.2.2.2.2.2.1 (i + (1 : Int32)).toNatClampNeg)]) (rest := []) (c_X10_waits l G dh0 dh1 dh2 dh3 dh4 dh5 dh6 dh7 s.heap.size d (d.2.2.2.2.2.2.2.2.2.2.2.2.2.1 (i + (1 : Int32)).toNatClampNeg) k_13) ⟨hx, hb, hml, hown, hts⟩ g_X10_142 hdv_X10_waits hK hST hS hP hD hA [0] [] rfl rfl rfl (k0 := 0) rfl rfl rfl ⟨Nat.le_of_ble_eq_true rfl, Nat.le_of_ble_eq_true rfl⟩ ⟨Nat.le_of_ble_eq_true rfl, Nat.le_of_ble_eq_true rfl⟩ rfl hl.1 rfl (Nat.le_of_ble_eq_true rfl) dX10_does_148 (fun u_15 H locs huu hP hD hS => ?_)
        have eu_15 := huu
        have hP : va_P G.1 vwCl (fl [wMo G dh0 dh1 dh2 dh3 dh4 dh5 dh6 dh7 u_15.2]) H := hP
        have hD : va_D A (fl [wMo G dh0 dh1 dh2 dh3 dh4 dh5 dh6 dh7 u_15.2]) := hD
        refine W.eq (g2 := F0 m 151 ls [.int u_15.1]) rfl ?_
        have hF : f_X10_does d i = (u_15.1, u_15.2) := by subst eu_15; exact hF
        exact w_ret (u := (u_15.1, u_15.2)) hx hb hr hlk rfl hS rfl hF.symm hP hD (Nat.le_of_ble_eq_true rfl) (Nat.le_of_ble_eq_true rfl) dX10_does_151
      · have hF := hF.trans (if_neg c_12)
        have hok := Eq.mp (if_neg c_12) hok
        by_cases c_16 : (d.2.2.2.2.2.2.2.2.2.2.2.2.2.1 i.toNatClampNeg) = (106 : Int32)
        · have hF := hF.trans (if_pos c_16)
          have hok := Eq.mp (if_pos c_16) hok
          refine lv_tableIn (off := 122) (tgt := 146) hx hb dX10_does_24 (by rw [c_16]; decide) (by rw [c_16]; decide) (by rw [c_16]; rfl) (by decide) ?_
          refine lv_aload_n hx hb dX10_does_146 rfl (lv_at hl 2 rfl) ?_
          refine lv_iload_n hx hb dX10_does_147 rfl (lv_at hl 1 rfl) ?_
          have k_17 := hok.1
          have hok := hok.2
          refine w_V (own := RX10) (cs := [wMo G dh0 dh1 dh2 dh3 dh4 dh5 dh6 dh7 d]) (rs := []) (As := [.int (d.2.2.2.2.2.2.2.2.2.2.2.2.2.1 (i + (1 : Int32)).toNatClampNeg)]) (rest := []) (c_X10_waits l G dh0 dh1 dh2 dh3 dh4 dh5 dh6 dh7 s.heap.size d (d.2.2.2.2.2.2.2.2.2.2.2.2.2.1 (i + (1 : Int32)).toNatClampNeg) k_17) ⟨hx, hb, hml, hown, hts⟩ g_X10_142 hdv_X10_waits hK hST hS hP hD hA [0] [] rfl rfl rfl (k0 := 0) rfl rfl rfl ⟨Nat.le_of_ble_eq_true rfl, Nat.le_of_ble_eq_true rfl⟩ ⟨Nat.le_of_ble_eq_true rfl, Nat.le_of_ble_eq_true rfl⟩ rfl hl.1 rfl (Nat.le_of_ble_eq_true rfl) dX10_does_148 (fun u_19 H locs huu hP hD hS => ?_)
          have eu_19 := huu
          have hP : va_P G.1 vwCl (fl [wMo G dh0 dh1 dh2 dh3 dh4 dh5 dh6 dh7 u_19.2]) H := hP
          have hD : va_D A (fl [wMo G dh0 dh1 dh2 dh3 dh4 dh5 dh6 dh7 u_19.2]) := hD
          refine W.eq (g2 := F0 m 151 ls [.int u_19.1]) rfl ?_
          have hF : f_X10_does d i = (u_19.1, u_19.2) := by subst eu_19; exact hF
          exact w_ret (u := (u_19.1, u_19.2)) hx hb hr hlk rfl hS rfl hF.symm hP hD (Nat.le_of_ble_eq_true rfl) (Nat.le_of_ble_eq_true rfl) dX10_does_151
        · have hF := hF.trans (if_neg c_16)
          have hok := Eq.mp (if_neg c_16) hok
          by_cases c_20 : (d.2.2.2.2.2.2.2.2.2.2.2.2.2.1 i.toNatClampNeg) = (107 : Int32)
          · have hF := hF.trans (if_pos c_20)
            have hok := Eq.mp (if_pos c_20) hok
            refine lv_tableIn (off := 122) (tgt := 146) hx hb dX10_does_24 (by rw [c_20]; decide) (by rw [c_20]; decide) (by rw [c_20]; rfl) (by decide) ?_
            refine lv_aload_n hx hb dX10_does_146 rfl (lv_at hl 2 rfl) ?_
            refine lv_iload_n hx hb dX10_does_147 rfl (lv_at hl 1 rfl) ?_
            have k_21 := hok.1
            have hok := hok.2
            refine w_V (own := RX10) (cs := [wMo G dh0 dh1 dh2 dh3 dh4 dh5 dh6 dh7 d]) (rs := []) (As := [.int (d.2.2.2.2.2.2.2.2.2.2.2.2.2.1 (i + (1 : Int32)).toNatClampNeg)]) (rest := []) (c_X10_waits l G dh0 dh1 dh2 dh3 dh4 dh5 dh6 dh7 s.heap.size d (d.2.2.2.2.2.2.2.2.2.2.2.2.2.1 (i + (1 : Int32)).toNatClampNeg) k_21) ⟨hx, hb, hml, hown, hts⟩ g_X10_142 hdv_X10_waits hK hST hS hP hD hA [0] [] rfl rfl rfl (k0 := 0) rfl rfl rfl ⟨Nat.le_of_ble_eq_true rfl, Nat.le_of_ble_eq_true rfl⟩ ⟨Nat.le_of_ble_eq_true rfl, Nat.le_of_ble_eq_true rfl⟩ rfl hl.1 rfl (Nat.le_of_ble_eq_true rfl) dX10_does_148 (fun u_23 H locs huu hP hD hS => ?_)
            have eu_23 := huu
            have hP : va_P G.1 vwCl (fl [wMo G dh0 dh1 dh2 dh3 dh4 dh5 dh6 dh7 u_23.2]) H := hP
            have hD : va_D A (fl [wMo G dh0 dh1 dh2 dh3 dh4 dh5 dh6 dh7 u_23.2]) := hD
            refine W.eq (g2 := F0 m 151 ls [.int u_23.1]) rfl ?_
            have hF : f_X10_does d i = (u_23.1, u_23.2) := by subst eu_23; exact hF
            exact w_ret (u := (u_23.1, u_23.2)) hx hb hr hlk rfl hS rfl hF.symm hP hD (Nat.le_of_ble_eq_true rfl) (Nat.le_of_ble_eq_true rfl) dX10_does_151
          · have hF := hF.trans (if_neg c_20)
            have hok := Eq.mp (if_neg c_20) hok
            by_cases c_24 : (d.2.2.2.2.2.2.2.2.2.2.2.2.2.1 i.toNatClampNeg) = (108 : Int32)
            · have hF := hF.trans (if_pos c_24)
              have hok := Eq.mp (if_pos c_24) hok
              refine lv_tableIn (off := 109) (tgt := 133) hx hb dX10_does_24 (by rw [c_24]; decide) (by rw [c_24]; decide) (by rw [c_24]; rfl) (by decide) ?_
              refine lv_aload_n hx hb dX10_does_133 rfl (lv_at hl 2 rfl) ?_
              refine lv_iload_n hx hb dX10_does_134 rfl (lv_at hl 1 rfl) ?_
              refine lv_iload_n hx hb dX10_does_135 rfl (lv_at hl 0 rfl) ?_
              have k_25 := hok.1
              have hok := hok.2
              refine w_V (own := RX10) (cs := [wMo G dh0 dh1 dh2 dh3 dh4 dh5 dh6 dh7 d]) (rs := []) (As := [.int (d.2.2.2.2.2.2.2.2.2.2.2.2.2.1 (i + (1 : Int32)).toNatClampNeg), .int (d.2.2.2.2.2.2.2.2.2.2.2.2.2.1 (i + (2 : Int32)).toNatClampNeg)]) (rest := []) (c_X10_lifts l G dh0 dh1 dh2 dh3 dh4 dh5 dh6 dh7 s.heap.size d (d.2.2.2.2.2.2.2.2.2.2.2.2.2.1 (i + (1 : Int32)).toNatClampNeg) (d.2.2.2.2.2.2.2.2.2.2.2.2.2.1 (i + (2 : Int32)).toNatClampNeg) k_25) ⟨hx, hb, hml, hown, hts⟩ g_X10_96 hdv_X10_lifts hK hST hS hP hD hA [0] [] rfl rfl rfl (k0 := 0) rfl rfl rfl ⟨Nat.le_of_ble_eq_true rfl, Nat.le_of_ble_eq_true rfl⟩ ⟨Nat.le_of_ble_eq_true rfl, Nat.le_of_ble_eq_true rfl⟩ rfl hl.1 rfl (Nat.le_of_ble_eq_true rfl) dX10_does_136 (fun u_27 H locs huu hP hD hS => ?_)
              have eu_27 := huu
              have hP : va_P G.1 vwCl (fl [wMo G dh0 dh1 dh2 dh3 dh4 dh5 dh6 dh7 u_27.2]) H := hP
              have hD : va_D A (fl [wMo G dh0 dh1 dh2 dh3 dh4 dh5 dh6 dh7 u_27.2]) := hD
              refine W.eq (g2 := F0 m 139 ls [.int u_27.1]) rfl ?_
              have hF : f_X10_does d i = (u_27.1, u_27.2) := by subst eu_27; exact hF
              exact w_ret (u := (u_27.1, u_27.2)) hx hb hr hlk rfl hS rfl hF.symm hP hD (Nat.le_of_ble_eq_true rfl) (Nat.le_of_ble_eq_true rfl) dX10_does_139
            · have hF := hF.trans (if_neg c_24)
              have hok := Eq.mp (if_neg c_24) hok
              by_cases c_28 : (d.2.2.2.2.2.2.2.2.2.2.2.2.2.1 i.toNatClampNeg) = (109 : Int32)
              · have hF := hF.trans (if_pos c_28)
                have hok := Eq.mp (if_pos c_28) hok
                refine lv_tableIn (off := 116) (tgt := 140) hx hb dX10_does_24 (by rw [c_28]; decide) (by rw [c_28]; decide) (by rw [c_28]; rfl) (by decide) ?_
                refine lv_aload_n hx hb dX10_does_140 rfl (lv_at hl 2 rfl) ?_
                refine lv_iload_n hx hb dX10_does_141 rfl (lv_at hl 1 rfl) ?_
                refine w_V (own := RX10) (cs := [wMo G dh0 dh1 dh2 dh3 dh4 dh5 dh6 dh7 d]) (rs := []) (As := [.int (d.2.2.2.2.2.2.2.2.2.2.2.2.2.1 (i + (1 : Int32)).toNatClampNeg)]) (rest := []) (c_X10_moons l G dh0 dh1 dh2 dh3 dh4 dh5 dh6 dh7 s.heap.size d (d.2.2.2.2.2.2.2.2.2.2.2.2.2.1 (i + (1 : Int32)).toNatClampNeg)) ⟨hx, hb, hml, hown, hts⟩ g_X10_136 hdv_X10_moons hK hST hS hP hD hA [0] [] rfl rfl rfl (k0 := 0) rfl rfl rfl ⟨Nat.le_of_ble_eq_true rfl, Nat.le_of_ble_eq_true rfl⟩ ⟨Nat.le_of_ble_eq_true rfl, Nat.le_of_ble_eq_true rfl⟩ rfl hl.1 rfl (Nat.le_of_ble_eq_true rfl) dX10_does_142 (fun u_30 H locs huu hP hD hS => ?_)
                have eu_30 := huu
                have hP : va_P G.1 vwCl (fl [wMo G dh0 dh1 dh2 dh3 dh4 dh5 dh6 dh7 u_30.2]) H := hP
                have hD : va_D A (fl [wMo G dh0 dh1 dh2 dh3 dh4 dh5 dh6 dh7 u_30.2]) := hD
                refine W.eq (g2 := F0 m 145 ls [.int u_30.1]) rfl ?_
                have hF : f_X10_does d i = (u_30.1, u_30.2) := by subst eu_30; exact hF
                exact w_ret (u := (u_30.1, u_30.2)) hx hb hr hlk rfl hS rfl hF.symm hP hD (Nat.le_of_ble_eq_true rfl) (Nat.le_of_ble_eq_true rfl) dX10_does_145
              · have hF := hF.trans (if_neg c_28)
                have hok := Eq.mp (if_neg c_28) hok
                by_cases c_31 : (d.2.2.2.2.2.2.2.2.2.2.2.2.2.1 i.toNatClampNeg) = (110 : Int32)
                · have hF := hF.trans (if_pos c_31)
                  have hok := Eq.mp (if_pos c_31) hok
                  refine lv_tableIn (off := 122) (tgt := 146) hx hb dX10_does_24 (by rw [c_31]; decide) (by rw [c_31]; decide) (by rw [c_31]; rfl) (by decide) ?_
                  refine lv_aload_n hx hb dX10_does_146 rfl (lv_at hl 2 rfl) ?_
                  refine lv_iload_n hx hb dX10_does_147 rfl (lv_at hl 1 rfl) ?_
                  have k_32 := hok.1
                  have hok := hok.2
                  refine w_V (own := RX10) (cs := [wMo G dh0 dh1 dh2 dh3 dh4 dh5 dh6 dh7 d]) (rs := []) (As := [.int (d.2.2.2.2.2.2.2.2.2.2.2.2.2.1 (i + (1 : Int32)).toNatClampNeg)]) (rest := []) (c_X10_waits l G dh0 dh1 dh2 dh3 dh4 dh5 dh6 dh7 s.heap.size d (d.2.2.2.2.2.2.2.2.2.2.2.2.2.1 (i + (1 : Int32)).toNatClampNeg) k_32) ⟨hx, hb, hml, hown, hts⟩ g_X10_142 hdv_X10_waits hK hST hS hP hD hA [0] [] rfl rfl rfl (k0 := 0) rfl rfl rfl ⟨Nat.le_of_ble_eq_true rfl, Nat.le_of_ble_eq_true rfl⟩ ⟨Nat.le_of_ble_eq_true rfl, Nat.le_of_ble_eq_true rfl⟩ rfl hl.1 rfl (Nat.le_of_ble_eq_true rfl) dX10_does_148 (fun u_34 H locs huu hP hD hS => ?_)
                  have eu_34 := huu
                  have hP : va_P G.1 vwCl (fl [wMo G dh0 dh1 dh2 dh3 dh4 dh5 dh6 dh7 u_34.2]) H := hP
                  have hD : va_D A (fl [wMo G dh0 dh1 dh2 dh3 dh4 dh5 dh6 dh7 u_34.2]) := hD
                  refine W.eq (g2 := F0 m 151 ls [.int u_34.1]) rfl ?_
                  have hF : f_X10_does d i = (u_34.1, u_34.2) := by subst eu_34; exact hF
                  exact w_ret (u := (u_34.1, u_34.2)) hx hb hr hlk rfl hS rfl hF.symm hP hD (Nat.le_of_ble_eq_true rfl) (Nat.le_of_ble_eq_true rfl) dX10_does_151
                · have hF := hF.trans (if_neg c_31)
                  have hok := Eq.mp (if_neg c_31) hok
                  by_cases c_35 : (d.2.2.2.2.2.2.2.2.2.2.2.2.2.1 i.toNatClampNeg) = (111 : Int32)
                  · have hF := hF.trans (if_pos c_35)
                    have hok := Eq.mp (if_pos c_35) hok
                    refine lv_tableIn (off := 93) (tgt := 117) hx hb dX10_does_24 (by rw [c_35]; decide) (by rw [c_35]; decide) (by rw [c_35]; rfl) (by decide) ?_
                    refine lv_aload_n hx hb dX10_does_117 rfl (lv_at hl 2 rfl) ?_
                    refine lv_iload_n hx hb dX10_does_118 rfl (lv_at hl 1 rfl) ?_
                    refine lv_iload_n hx hb dX10_does_119 rfl (lv_at hl 0 rfl) ?_
                    refine lv_iconst (v := (1 : Int32)) hx hb dX10_does_120 (by decide) ?_
                    have k_36 := hok.1
                    have hok := hok.2
                    refine w_V (own := RX10) (cs := [wMo G dh0 dh1 dh2 dh3 dh4 dh5 dh6 dh7 d]) (rs := []) (As := [.int (d.2.2.2.2.2.2.2.2.2.2.2.2.2.1 (i + (1 : Int32)).toNatClampNeg), .int (d.2.2.2.2.2.2.2.2.2.2.2.2.2.1 (i + (2 : Int32)).toNatClampNeg), .int (1 : Int32)]) (rest := []) (c_X10_excepts l G dh0 dh1 dh2 dh3 dh4 dh5 dh6 dh7 s.heap.size d (d.2.2.2.2.2.2.2.2.2.2.2.2.2.1 (i + (1 : Int32)).toNatClampNeg) (d.2.2.2.2.2.2.2.2.2.2.2.2.2.1 (i + (2 : Int32)).toNatClampNeg) (1 : Int32) k_36) ⟨hx, hb, hml, hown, hts⟩ g_X10_92 hdv_X10_excepts hK hST hS hP hD hA [0] [] rfl rfl rfl (k0 := 0) rfl rfl rfl ⟨Nat.le_of_ble_eq_true rfl, Nat.le_of_ble_eq_true rfl⟩ ⟨Nat.le_of_ble_eq_true rfl, Nat.le_of_ble_eq_true rfl⟩ rfl hl.1 rfl (Nat.le_of_ble_eq_true rfl) dX10_does_121 (fun u_38 H locs huu hP hD hS => ?_)
                    have eu_38 := huu
                    have hP : va_P G.1 vwCl (fl [wMo G dh0 dh1 dh2 dh3 dh4 dh5 dh6 dh7 u_38.2]) H := hP
                    have hD : va_D A (fl [wMo G dh0 dh1 dh2 dh3 dh4 dh5 dh6 dh7 u_38.2]) := hD
                    refine W.eq (g2 := F0 m 124 ls [.int u_38.1]) rfl ?_
                    have hF : f_X10_does d i = (u_38.1, u_38.2) := by subst eu_38; exact hF
                    exact w_ret (u := (u_38.1, u_38.2)) hx hb hr hlk rfl hS rfl hF.symm hP hD (Nat.le_of_ble_eq_true rfl) (Nat.le_of_ble_eq_true rfl) dX10_does_124
                  · have hF := hF.trans (if_neg c_35)
                    have hok := Eq.mp (if_neg c_35) hok
                    by_cases c_39 : (d.2.2.2.2.2.2.2.2.2.2.2.2.2.1 i.toNatClampNeg) = (112 : Int32)
                    · have hF := hF.trans (if_pos c_39)
                      have hok := Eq.mp (if_pos c_39) hok
                      refine lv_tableIn (off := 122) (tgt := 146) hx hb dX10_does_24 (by rw [c_39]; decide) (by rw [c_39]; decide) (by rw [c_39]; rfl) (by decide) ?_
                      refine lv_aload_n hx hb dX10_does_146 rfl (lv_at hl 2 rfl) ?_
                      refine lv_iload_n hx hb dX10_does_147 rfl (lv_at hl 1 rfl) ?_
                      have k_40 := hok.1
                      have hok := hok.2
                      refine w_V (own := RX10) (cs := [wMo G dh0 dh1 dh2 dh3 dh4 dh5 dh6 dh7 d]) (rs := []) (As := [.int (d.2.2.2.2.2.2.2.2.2.2.2.2.2.1 (i + (1 : Int32)).toNatClampNeg)]) (rest := []) (c_X10_waits l G dh0 dh1 dh2 dh3 dh4 dh5 dh6 dh7 s.heap.size d (d.2.2.2.2.2.2.2.2.2.2.2.2.2.1 (i + (1 : Int32)).toNatClampNeg) k_40) ⟨hx, hb, hml, hown, hts⟩ g_X10_142 hdv_X10_waits hK hST hS hP hD hA [0] [] rfl rfl rfl (k0 := 0) rfl rfl rfl ⟨Nat.le_of_ble_eq_true rfl, Nat.le_of_ble_eq_true rfl⟩ ⟨Nat.le_of_ble_eq_true rfl, Nat.le_of_ble_eq_true rfl⟩ rfl hl.1 rfl (Nat.le_of_ble_eq_true rfl) dX10_does_148 (fun u_42 H locs huu hP hD hS => ?_)
                      have eu_42 := huu
                      have hP : va_P G.1 vwCl (fl [wMo G dh0 dh1 dh2 dh3 dh4 dh5 dh6 dh7 u_42.2]) H := hP
                      have hD : va_D A (fl [wMo G dh0 dh1 dh2 dh3 dh4 dh5 dh6 dh7 u_42.2]) := hD
                      refine W.eq (g2 := F0 m 151 ls [.int u_42.1]) rfl ?_
                      have hF : f_X10_does d i = (u_42.1, u_42.2) := by subst eu_42; exact hF
                      exact w_ret (u := (u_42.1, u_42.2)) hx hb hr hlk rfl hS rfl hF.symm hP hD (Nat.le_of_ble_eq_true rfl) (Nat.le_of_ble_eq_true rfl) dX10_does_151
                    · have hF := hF.trans (if_neg c_39)
                      have hok := Eq.mp (if_neg c_39) hok
                      by_cases c_43 : (d.2.2.2.2.2.2.2.2.2.2.2.2.2.1 i.toNatClampNeg) = (113 : Int32)
                      · have hF := hF.trans (if_pos c_43)
                        have hok := Eq.mp (if_pos c_43) hok
                        refine lv_tableIn (off := 122) (tgt := 146) hx hb dX10_does_24 (by rw [c_43]; decide) (by rw [c_43]; decide) (by rw [c_43]; rfl) (by decide) ?_
                        refine lv_aload_n hx hb dX10_does_146 rfl (lv_at hl 2 rfl) ?_
                        refine lv_iload_n hx hb dX10_does_147 rfl (lv_at hl 1 rfl) ?_
                        have k_44 := hok.1
                        have hok := hok.2
                        refine w_V (own := RX10) (cs := [wMo G dh0 dh1 dh2 dh3 dh4 dh5 dh6 dh7 d]) (rs := []) (As := [.int (d.2.2.2.2.2.2.2.2.2.2.2.2.2.1 (i + (1 : Int32)).toNatClampNeg)]) (rest := []) (c_X10_waits l G dh0 dh1 dh2 dh3 dh4 dh5 dh6 dh7 s.heap.size d (d.2.2.2.2.2.2.2.2.2.2.2.2.2.1 (i + (1 : Int32)).toNatClampNeg) k_44) ⟨hx, hb, hml, hown, hts⟩ g_X10_142 hdv_X10_waits hK hST hS hP hD hA [0] [] rfl rfl rfl (k0 := 0) rfl rfl rfl ⟨Nat.le_of_ble_eq_true rfl, Nat.le_of_ble_eq_true rfl⟩ ⟨Nat.le_of_ble_eq_true rfl, Nat.le_of_ble_eq_true rfl⟩ rfl hl.1 rfl (Nat.le_of_ble_eq_true rfl) dX10_does_148 (fun u_46 H locs huu hP hD hS => ?_)
                        have eu_46 := huu
                        have hP : va_P G.1 vwCl (fl [wMo G dh0 dh1 dh2 dh3 dh4 dh5 dh6 dh7 u_46.2]) H := hP
                        have hD : va_D A (fl [wMo G dh0 dh1 dh2 dh3 dh4 dh5 dh6 dh7 u_46.2]) := hD
                        refine W.eq (g2 := F0 m 151 ls [.int u_46.1]) rfl ?_
                        have hF : f_X10_does d i = (u_46.1, u_46.2) := by subst eu_46; exact hF
                        exact w_ret (u := (u_46.1, u_46.2)) hx hb hr hlk rfl hS rfl hF.symm hP hD (Nat.le_of_ble_eq_true rfl) (Nat.le_of_ble_eq_true rfl) dX10_does_151
                      · have hF := hF.trans (if_neg c_43)
                        have hok := Eq.mp (if_neg c_43) hok
                        by_cases c_47 : (d.2.2.2.2.2.2.2.2.2.2.2.2.2.1 i.toNatClampNeg) = (114 : Int32)
                        · have hF := hF.trans (if_pos c_47)
                          have hok := Eq.mp (if_pos c_47) hok
                          refine lv_tableIn (off := 86) (tgt := 110) hx hb dX10_does_24 (by rw [c_47]; decide) (by rw [c_47]; decide) (by rw [c_47]; rfl) (by decide) ?_
                          refine lv_aload_n hx hb dX10_does_110 rfl (lv_at hl 2 rfl) ?_
                          refine lv_iload_n hx hb dX10_does_111 rfl (lv_at hl 1 rfl) ?_
                          refine lv_iload_n hx hb dX10_does_112 rfl (lv_at hl 0 rfl) ?_
                          have k_48 := hok.1
                          have hok := hok.2
                          refine w_V (own := RX10) (cs := [wMo G dh0 dh1 dh2 dh3 dh4 dh5 dh6 dh7 d]) (rs := []) (As := [.int (d.2.2.2.2.2.2.2.2.2.2.2.2.2.1 (i + (1 : Int32)).toNatClampNeg), .int (d.2.2.2.2.2.2.2.2.2.2.2.2.2.1 (i + (2 : Int32)).toNatClampNeg)]) (rest := []) (c_X10_tries l G dh0 dh1 dh2 dh3 dh4 dh5 dh6 dh7 s.heap.size d (d.2.2.2.2.2.2.2.2.2.2.2.2.2.1 (i + (1 : Int32)).toNatClampNeg) (d.2.2.2.2.2.2.2.2.2.2.2.2.2.1 (i + (2 : Int32)).toNatClampNeg) k_48) ⟨hx, hb, hml, hown, hts⟩ g_X10_133 hdv_X10_tries hK hST hS hP hD hA [0] [] rfl rfl rfl (k0 := 0) rfl rfl rfl ⟨Nat.le_of_ble_eq_true rfl, Nat.le_of_ble_eq_true rfl⟩ ⟨Nat.le_of_ble_eq_true rfl, Nat.le_of_ble_eq_true rfl⟩ rfl hl.1 rfl (Nat.le_of_ble_eq_true rfl) dX10_does_113 (fun u_50 H locs huu hP hD hS => ?_)
                          have eu_50 := huu
                          have hP : va_P G.1 vwCl (fl [wMo G dh0 dh1 dh2 dh3 dh4 dh5 dh6 dh7 u_50.2]) H := hP
                          have hD : va_D A (fl [wMo G dh0 dh1 dh2 dh3 dh4 dh5 dh6 dh7 u_50.2]) := hD
                          refine W.eq (g2 := F0 m 116 ls [.int u_50.1]) rfl ?_
                          have hF : f_X10_does d i = (u_50.1, u_50.2) := by subst eu_50; exact hF
                          exact w_ret (u := (u_50.1, u_50.2)) hx hb hr hlk rfl hS rfl hF.symm hP hD (Nat.le_of_ble_eq_true rfl) (Nat.le_of_ble_eq_true rfl) dX10_does_116
                        · have hF := hF.trans (if_neg c_47)
                          have hok := Eq.mp (if_neg c_47) hok
                          by_cases c_51 : (d.2.2.2.2.2.2.2.2.2.2.2.2.2.1 i.toNatClampNeg) = (115 : Int32)
                          · have hF := hF.trans (if_pos c_51)
                            have hok := Eq.mp (if_pos c_51) hok
                            refine lv_tableIn (off := 101) (tgt := 125) hx hb dX10_does_24 (by rw [c_51]; decide) (by rw [c_51]; decide) (by rw [c_51]; rfl) (by decide) ?_
                            refine lv_aload_n hx hb dX10_does_125 rfl (lv_at hl 2 rfl) ?_
                            refine lv_iload_n hx hb dX10_does_126 rfl (lv_at hl 1 rfl) ?_
                            refine lv_iload_n hx hb dX10_does_127 rfl (lv_at hl 0 rfl) ?_
                            refine lv_iconst (v := (0 : Int32)) hx hb dX10_does_128 (by decide) ?_
                            have k_52 := hok.1
                            have hok := hok.2
                            refine w_V (own := RX10) (cs := [wMo G dh0 dh1 dh2 dh3 dh4 dh5 dh6 dh7 d]) (rs := []) (As := [.int (d.2.2.2.2.2.2.2.2.2.2.2.2.2.1 (i + (1 : Int32)).toNatClampNeg), .int (d.2.2.2.2.2.2.2.2.2.2.2.2.2.1 (i + (2 : Int32)).toNatClampNeg), .int (0 : Int32)]) (rest := []) (c_X10_excepts l G dh0 dh1 dh2 dh3 dh4 dh5 dh6 dh7 s.heap.size d (d.2.2.2.2.2.2.2.2.2.2.2.2.2.1 (i + (1 : Int32)).toNatClampNeg) (d.2.2.2.2.2.2.2.2.2.2.2.2.2.1 (i + (2 : Int32)).toNatClampNeg) (0 : Int32) k_52) ⟨hx, hb, hml, hown, hts⟩ g_X10_92 hdv_X10_excepts hK hST hS hP hD hA [0] [] rfl rfl rfl (k0 := 0) rfl rfl rfl ⟨Nat.le_of_ble_eq_true rfl, Nat.le_of_ble_eq_true rfl⟩ ⟨Nat.le_of_ble_eq_true rfl, Nat.le_of_ble_eq_true rfl⟩ rfl hl.1 rfl (Nat.le_of_ble_eq_true rfl) dX10_does_129 (fun u_54 H locs huu hP hD hS => ?_)
                            have eu_54 := huu
                            have hP : va_P G.1 vwCl (fl [wMo G dh0 dh1 dh2 dh3 dh4 dh5 dh6 dh7 u_54.2]) H := hP
                            have hD : va_D A (fl [wMo G dh0 dh1 dh2 dh3 dh4 dh5 dh6 dh7 u_54.2]) := hD
                            refine W.eq (g2 := F0 m 132 ls [.int u_54.1]) rfl ?_
                            have hF : f_X10_does d i = (u_54.1, u_54.2) := by subst eu_54; exact hF
                            exact w_ret (u := (u_54.1, u_54.2)) hx hb hr hlk rfl hS rfl hF.symm hP hD (Nat.le_of_ble_eq_true rfl) (Nat.le_of_ble_eq_true rfl) dX10_does_132
                          · have hF := hF.trans (if_neg c_51)
                            have hok := Eq.mp (if_neg c_51) hok
                            by_cases c_55 : (d.2.2.2.2.2.2.2.2.2.2.2.2.2.1 i.toNatClampNeg) = (116 : Int32)
                            · have hF := hF.trans (if_pos c_55)
                              have hok := Eq.mp (if_pos c_55) hok
                              refine lv_tableIn (off := 79) (tgt := 103) hx hb dX10_does_24 (by rw [c_55]; decide) (by rw [c_55]; decide) (by rw [c_55]; rfl) (by decide) ?_
                              refine lv_aload_n hx hb dX10_does_103 rfl (lv_at hl 2 rfl) ?_
                              refine lv_iload_n hx hb dX10_does_104 rfl (lv_at hl 1 rfl) ?_
                              refine lv_iload_n hx hb dX10_does_105 rfl (lv_at hl 0 rfl) ?_
                              have k_56 := hok.1
                              have hok := hok.2
                              refine w_V (own := RX10) (cs := [wMo G dh0 dh1 dh2 dh3 dh4 dh5 dh6 dh7 d]) (rs := []) (As := [.int (d.2.2.2.2.2.2.2.2.2.2.2.2.2.1 (i + (1 : Int32)).toNatClampNeg), .int (d.2.2.2.2.2.2.2.2.2.2.2.2.2.1 (i + (2 : Int32)).toNatClampNeg)]) (rest := []) (c_X10_takes l G dh0 dh1 dh2 dh3 dh4 dh5 dh6 dh7 s.heap.size d (d.2.2.2.2.2.2.2.2.2.2.2.2.2.1 (i + (1 : Int32)).toNatClampNeg) (d.2.2.2.2.2.2.2.2.2.2.2.2.2.1 (i + (2 : Int32)).toNatClampNeg) k_56) ⟨hx, hb, hml, hown, hts⟩ g_X10_124 hdv_X10_takes hK hST hS hP hD hA [0] [] rfl rfl rfl (k0 := 0) rfl rfl rfl ⟨Nat.le_of_ble_eq_true rfl, Nat.le_of_ble_eq_true rfl⟩ ⟨Nat.le_of_ble_eq_true rfl, Nat.le_of_ble_eq_true rfl⟩ rfl hl.1 rfl (Nat.le_of_ble_eq_true rfl) dX10_does_106 (fun u_58 H locs huu hP hD hS => ?_)
                              have eu_58 := huu
                              have hP : va_P G.1 vwCl (fl [wMo G dh0 dh1 dh2 dh3 dh4 dh5 dh6 dh7 u_58.2]) H := hP
                              have hD : va_D A (fl [wMo G dh0 dh1 dh2 dh3 dh4 dh5 dh6 dh7 u_58.2]) := hD
                              refine W.eq (g2 := F0 m 109 ls [.int u_58.1]) rfl ?_
                              have hF : f_X10_does d i = (u_58.1, u_58.2) := by subst eu_58; exact hF
                              exact w_ret (u := (u_58.1, u_58.2)) hx hb hr hlk rfl hS rfl hF.symm hP hD (Nat.le_of_ble_eq_true rfl) (Nat.le_of_ble_eq_true rfl) dX10_does_109
                            · have hF := hF.trans (if_neg c_55)
                              have hok := Eq.mp (if_neg c_55) hok
                              refine lv_tableOut (tgt := 146) hx hb dX10_does_24 (by
                                  have g0 : ((d.2.2.2.2.2.2.2.2.2.2.2.2.2.1 i.toNatClampNeg)).toInt ≠ 103 := fun e => c_4 (Int32.toInt_inj.mp (e.trans (by decide)))
                                  have g1 : ((d.2.2.2.2.2.2.2.2.2.2.2.2.2.1 i.toNatClampNeg)).toInt ≠ 104 := fun e => c_8 (Int32.toInt_inj.mp (e.trans (by decide)))
                                  have g2 : ((d.2.2.2.2.2.2.2.2.2.2.2.2.2.1 i.toNatClampNeg)).toInt ≠ 105 := fun e => c_12 (Int32.toInt_inj.mp (e.trans (by decide)))
                                  have g3 : ((d.2.2.2.2.2.2.2.2.2.2.2.2.2.1 i.toNatClampNeg)).toInt ≠ 106 := fun e => c_16 (Int32.toInt_inj.mp (e.trans (by decide)))
                                  have g4 : ((d.2.2.2.2.2.2.2.2.2.2.2.2.2.1 i.toNatClampNeg)).toInt ≠ 107 := fun e => c_20 (Int32.toInt_inj.mp (e.trans (by decide)))
                                  have g5 : ((d.2.2.2.2.2.2.2.2.2.2.2.2.2.1 i.toNatClampNeg)).toInt ≠ 108 := fun e => c_24 (Int32.toInt_inj.mp (e.trans (by decide)))
                                  have g6 : ((d.2.2.2.2.2.2.2.2.2.2.2.2.2.1 i.toNatClampNeg)).toInt ≠ 109 := fun e => c_28 (Int32.toInt_inj.mp (e.trans (by decide)))
                                  have g7 : ((d.2.2.2.2.2.2.2.2.2.2.2.2.2.1 i.toNatClampNeg)).toInt ≠ 110 := fun e => c_31 (Int32.toInt_inj.mp (e.trans (by decide)))
                                  have g8 : ((d.2.2.2.2.2.2.2.2.2.2.2.2.2.1 i.toNatClampNeg)).toInt ≠ 111 := fun e => c_35 (Int32.toInt_inj.mp (e.trans (by decide)))
                                  have g9 : ((d.2.2.2.2.2.2.2.2.2.2.2.2.2.1 i.toNatClampNeg)).toInt ≠ 112 := fun e => c_39 (Int32.toInt_inj.mp (e.trans (by decide)))
                                  have g10 : ((d.2.2.2.2.2.2.2.2.2.2.2.2.2.1 i.toNatClampNeg)).toInt ≠ 113 := fun e => c_43 (Int32.toInt_inj.mp (e.trans (by decide)))
                                  have g11 : ((d.2.2.2.2.2.2.2.2.2.2.2.2.2.1 i.toNatClampNeg)).toInt ≠ 114 := fun e => c_47 (Int32.toInt_inj.mp (e.trans (by decide)))
                                  have g12 : ((d.2.2.2.2.2.2.2.2.2.2.2.2.2.1 i.toNatClampNeg)).toInt ≠ 115 := fun e => c_51 (Int32.toInt_inj.mp (e.trans (by decide)))
                                  have g13 : ((d.2.2.2.2.2.2.2.2.2.2.2.2.2.1 i.toNatClampNeg)).toInt ≠ 116 := fun e => c_55 (Int32.toInt_inj.mp (e.trans (by decide)))
                                  omega) (by decide) ?_
                              refine lv_aload_n hx hb dX10_does_146 rfl (lv_at hl 2 rfl) ?_
                              refine lv_iload_n hx hb dX10_does_147 rfl (lv_at hl 1 rfl) ?_
                              have k_59 := hok.1
                              have hok := hok.2
                              refine w_V (own := RX10) (cs := [wMo G dh0 dh1 dh2 dh3 dh4 dh5 dh6 dh7 d]) (rs := []) (As := [.int (d.2.2.2.2.2.2.2.2.2.2.2.2.2.1 (i + (1 : Int32)).toNatClampNeg)]) (rest := []) (c_X10_waits l G dh0 dh1 dh2 dh3 dh4 dh5 dh6 dh7 s.heap.size d (d.2.2.2.2.2.2.2.2.2.2.2.2.2.1 (i + (1 : Int32)).toNatClampNeg) k_59) ⟨hx, hb, hml, hown, hts⟩ g_X10_142 hdv_X10_waits hK hST hS hP hD hA [0] [] rfl rfl rfl (k0 := 0) rfl rfl rfl ⟨Nat.le_of_ble_eq_true rfl, Nat.le_of_ble_eq_true rfl⟩ ⟨Nat.le_of_ble_eq_true rfl, Nat.le_of_ble_eq_true rfl⟩ rfl hl.1 rfl (Nat.le_of_ble_eq_true rfl) dX10_does_148 (fun u_61 H locs huu hP hD hS => ?_)
                              have eu_61 := huu
                              have hP : va_P G.1 vwCl (fl [wMo G dh0 dh1 dh2 dh3 dh4 dh5 dh6 dh7 u_61.2]) H := hP
                              have hD : va_D A (fl [wMo G dh0 dh1 dh2 dh3 dh4 dh5 dh6 dh7 u_61.2]) := hD
                              refine W.eq (g2 := F0 m 151 ls [.int u_61.1]) rfl ?_
                              have hF : f_X10_does d i = (u_61.1, u_61.2) := by subst eu_61; exact hF
                              exact w_ret (u := (u_61.1, u_61.2)) hx hb hr hlk rfl hS rfl hF.symm hP hD (Nat.le_of_ble_eq_true rfl) (Nat.le_of_ble_eq_true rfl) dX10_does_151
theorem dX10_execute_0 : decode cX10_execute 0 = .ok (.aload_n 0, 1) := by decide +kernel
theorem dX10_execute_1 : decode cX10_execute 1 = .ok (.invokevirtual 242, 3) := by decide +kernel
theorem u_2068 : Cond.methodLink RX10 242 yX10_isProgram ∈ UW := uw 2068 (by decide +kernel) rfl
theorem u_2070 : Cond.instanceMethod yX10_isProgram ∈ UW := uw 2070 (by decide +kernel) rfl
theorem u_53 : Cond.selects RX10 yX10_isProgram yX10_isProgram ∈ UW := uw 53 (by decide +kernel) rfl
theorem u_2071 : Cond.code yX10_isProgram cX10_isProgram 2 (some .boolean) ∈ UW := uw 2071 (by decide +kernel) rfl
theorem g_X10_242 : GoodIn UW (wsV RX10 242 RX10 yX10_isProgram (wsU yX10_isProgram cX10_isProgram 2 (some .boolean))) := gV u_2068 u_2070 u_53 u_77 u_2071
theorem hdv_X10_isProgram : yX10_isProgram.cls = RX10 ∧ yX10_isProgram.cls ≠ "java/lang/invoke/MethodHandle" ∧ yX10_isProgram.cls ≠ "java/lang/invoke/VarHandle" ∧ (parseMethodDescriptor yX10_isProgram.desc).map (fun d => d.parameters.length) = some 0 := by decide +kernel
theorem dX10_execute_4 : decode cX10_execute 4 = .ok (.istore_n 1, 1) := by decide +kernel
theorem dX10_execute_5 : decode cX10_execute 5 = .ok (.aload_n 0, 1) := by decide +kernel
theorem dX10_execute_6 : decode cX10_execute 6 = .ok (.iconst 0, 1) := by decide +kernel
theorem dX10_execute_7 : decode cX10_execute 7 = .ok (.putfield 176, 3) := by decide +kernel
theorem dX10_execute_10 : decode cX10_execute 10 = .ok (.aload_n 0, 1) := by decide +kernel
theorem dX10_execute_11 : decode cX10_execute 11 = .ok (.iload_n 1, 1) := by decide +kernel
theorem dX10_execute_12 : decode cX10_execute 12 = .ok (.ifCond .ne 7, 3) := by decide +kernel
theorem dX10_execute_19 : decode cX10_execute 19 = .ok (.iconst 0, 1) := by decide +kernel
theorem dX10_execute_20 : decode cX10_execute 20 = .ok (.iconst 1, 1) := by decide +kernel
theorem dX10_execute_21 : decode cX10_execute 21 = .ok (.invokevirtual 63, 3) := by decide +kernel
theorem dX10_execute_24 : decode cX10_execute 24 = .ok (.ifCond .eq 13, 3) := by decide +kernel
theorem dX10_execute_37 : decode cX10_execute 37 = .ok (.aload_n 0, 1) := by decide +kernel
theorem dX10_execute_38 : decode cX10_execute 38 = .ok (.invokevirtual 56, 3) := by decide +kernel
theorem dX10_execute_41 : decode cX10_execute 41 = .ok (.iconst 0, 1) := by decide +kernel
theorem dX10_execute_42 : decode cX10_execute 42 = .ok (.istore_n 2, 1) := by decide +kernel
theorem dX10_execute_43 : decode cX10_execute 43 = .ok (.iload_n 2, 1) := by decide +kernel
theorem dX10_execute_44 : decode cX10_execute 44 = .ok (.aload_n 0, 1) := by decide +kernel
theorem dX10_execute_45 : decode cX10_execute 45 = .ok (.getfield 229, 3) := by decide +kernel
theorem dX10_execute_48 : decode cX10_execute 48 = .ok (.if_icmp .ge 57, 3) := by decide +kernel
theorem dX10_execute_105 : decode cX10_execute 105 = .ok (.aload_n 0, 1) := by decide +kernel
theorem dX10_execute_106 : decode cX10_execute 106 = .ok (.aload_n 0, 1) := by decide +kernel
theorem dX10_execute_107 : decode cX10_execute 107 = .ok (.getfield 229, 3) := by decide +kernel
theorem dX10_execute_110 : decode cX10_execute 110 = .ok (.invokevirtual 71, 3) := by decide +kernel
theorem dX10_execute_113 : decode cX10_execute 113 = .ok (.ireturn, 1) := by decide +kernel
theorem dX10_execute_51 : decode cX10_execute 51 = .ok (.aload_n 0, 1) := by decide +kernel
theorem dX10_execute_52 : decode cX10_execute 52 = .ok (.iconst 0, 1) := by decide +kernel
theorem dX10_execute_53 : decode cX10_execute 53 = .ok (.putfield 38, 3) := by decide +kernel
theorem dX10_execute_56 : decode cX10_execute 56 = .ok (.aload_n 0, 1) := by decide +kernel
theorem dX10_execute_57 : decode cX10_execute 57 = .ok (.aload_n 0, 1) := by decide +kernel
theorem dX10_execute_58 : decode cX10_execute 58 = .ok (.iconst 3, 1) := by decide +kernel
theorem dX10_execute_59 : decode cX10_execute 59 = .ok (.iload_n 2, 1) := by decide +kernel
theorem dX10_execute_60 : decode cX10_execute 60 = .ok (.imul, 1) := by decide +kernel
theorem dX10_execute_61 : decode cX10_execute 61 = .ok (.invokevirtual 245, 3) := by decide +kernel
theorem u_2121 : Cond.methodLink RX10 245 yX10_does ∈ UW := uw 2121 (by decide +kernel) rfl
theorem u_2123 : Cond.instanceMethod yX10_does ∈ UW := uw 2123 (by decide +kernel) rfl
theorem u_63 : Cond.selects RX10 yX10_does yX10_does ∈ UW := uw 63 (by decide +kernel) rfl
theorem u_2124 : Cond.code yX10_does cX10_does 4 (some .int) ∈ UW := uw 2124 (by decide +kernel) rfl
theorem g_X10_245 : GoodIn UW (wsV RX10 245 RX10 yX10_does (wsU yX10_does cX10_does 4 (some .int))) := gV u_2121 u_2123 u_63 u_77 u_2124
theorem hdv_X10_does : yX10_does.cls = RX10 ∧ yX10_does.cls ≠ "java/lang/invoke/MethodHandle" ∧ yX10_does.cls ≠ "java/lang/invoke/VarHandle" ∧ (parseMethodDescriptor yX10_does.desc).map (fun d => d.parameters.length) = some 1 := by decide +kernel
theorem dX10_execute_64 : decode cX10_execute 64 = .ok (.putfield 248, 3) := by decide +kernel
theorem u_1688 : Cond.fieldLink RX10 248 "MoonlitDoorsModel" "answer" "I" ∈ UW := uw 1688 (by decide +kernel) rfl
theorem dX10_execute_67 : decode cX10_execute 67 = .ok (.aload_n 0, 1) := by decide +kernel
theorem dX10_execute_68 : decode cX10_execute 68 = .ok (.getfield 38, 3) := by decide +kernel
theorem dX10_execute_71 : decode cX10_execute 71 = .ok (.ifCond .eq 28, 3) := by decide +kernel
theorem dX10_execute_99 : decode cX10_execute 99 = .ok (.iinc 2 1, 3) := by decide +kernel
theorem dX10_execute_102 : decode cX10_execute 102 = .ok (.goto (-59), 3) := by decide +kernel
theorem dX10_execute_74 : decode cX10_execute 74 = .ok (.aload_n 0, 1) := by decide +kernel
theorem dX10_execute_75 : decode cX10_execute 75 = .ok (.getfield 13, 3) := by decide +kernel
theorem dX10_execute_78 : decode cX10_execute 78 = .ok (.iconst 0, 1) := by decide +kernel
theorem dX10_execute_79 : decode cX10_execute 79 = .ok (.aload_n 0, 1) := by decide +kernel
theorem dX10_execute_80 : decode cX10_execute 80 = .ok (.getfield 9, 3) := by decide +kernel
theorem dX10_execute_83 : decode cX10_execute 83 = .ok (.iconst 0, 1) := by decide +kernel
theorem dX10_execute_84 : decode cX10_execute 84 = .ok (.invokestatic 41, 3) := by decide +kernel
theorem dX10_execute_87 : decode cX10_execute 87 = .ok (.aload_n 0, 1) := by decide +kernel
theorem dX10_execute_88 : decode cX10_execute 88 = .ok (.iload_n 2, 1) := by decide +kernel
theorem dX10_execute_89 : decode cX10_execute 89 = .ok (.putfield 26, 3) := by decide +kernel
theorem u_1687 : Cond.fieldLink RX10 26 "MoonlitDoorsModel" "failedAt" "I" ∈ UW := uw 1687 (by decide +kernel) rfl
theorem dX10_execute_92 : decode cX10_execute 92 = .ok (.aload_n 0, 1) := by decide +kernel
theorem dX10_execute_93 : decode cX10_execute 93 = .ok (.iconst 2, 1) := by decide +kernel
theorem dX10_execute_94 : decode cX10_execute 94 = .ok (.putfield 38, 3) := by decide +kernel
theorem dX10_execute_97 : decode cX10_execute 97 = .ok (.iconst 0, 1) := by decide +kernel
theorem dX10_execute_98 : decode cX10_execute 98 = .ok (.ireturn, 1) := by decide +kernel
theorem dX10_execute_15 : decode cX10_execute 15 = .ok (.iconst 1, 1) := by decide +kernel
theorem dX10_execute_16 : decode cX10_execute 16 = .ok (.goto 4, 3) := by decide +kernel
theorem dX10_execute_27 : decode cX10_execute 27 = .ok (.aload_n 0, 1) := by decide +kernel
theorem dX10_execute_28 : decode cX10_execute 28 = .ok (.aload_n 0, 1) := by decide +kernel
theorem dX10_execute_29 : decode cX10_execute 29 = .ok (.getfield 179, 3) := by decide +kernel
theorem dX10_execute_32 : decode cX10_execute 32 = .ok (.putfield 22, 3) := by decide +kernel
theorem u_1686 : Cond.fieldLink RX10 22 "MoonlitDoorsModel" "errorAt" "I" ∈ UW := uw 1686 (by decide +kernel) rfl
theorem dX10_execute_35 : decode cX10_execute 35 = .ok (.iconst 0, 1) := by decide +kernel
theorem dX10_execute_36 : decode cX10_execute 36 = .ok (.ireturn, 1) := by decide +kernel
def lp_X10_execute_43 (d : MoV) (u_3 : Int32 × MoV) (u_6 : MoV) (u_10 : MoV) : Nat → Int32 → MoV → Int32 × MoV
  | 0, _, _ => (0, d)
  | n + 1, x2, dL => (if dL.2.2.2.2.2.2.2.2.2.2.2.2.2.2.2.2 ≤ x2 then (let u_14 : Int32 × MoV := (f_X10_ends dL dL.2.2.2.2.2.2.2.2.2.2.2.2.2.2.2.2); (u_14.1, u_14.2)) else (let u_17 : Int32 × MoV := (f_X10_does (mo5 dL (0 : Int32)) ((3 : Int32) * x2)); (if u_17.2.2.2.2.2.2.1 = (0 : Int32) then (lp_X10_execute_43 d u_3 u_6 u_10 n (x2 + 1) (mo8 u_17.2 u_17.1)) else (let u_21 : (Nat → Int32) := (f_X10_copies 249 u_17.2.2.1 (0 : Int32) 249 u_17.2.1 (0 : Int32)); ((0 : Int32), (mo8 (mo7 (mo5 (mo0 u_17.2 u_21) (2 : Int32)) x2) u_17.1))))))
def okl_lp_X10_execute_43 (d : MoV) (u_3 : Int32 × MoV) (u_6 : MoV) (u_10 : MoV) : Nat → Int32 → MoV → Prop
  | 0, _, _ => False
  | n + 1, x2, dL => (if dL.2.2.2.2.2.2.2.2.2.2.2.2.2.2.2.2 ≤ x2 then (ok_X10_ends dL dL.2.2.2.2.2.2.2.2.2.2.2.2.2.2.2.2 ∧ True) else (ok_X10_does (mo5 dL (0 : Int32)) ((3 : Int32) * x2) ∧ (let u_17 : Int32 × MoV := (f_X10_does (mo5 dL (0 : Int32)) ((3 : Int32) * x2)); (if u_17.2.2.2.2.2.2.1 = (0 : Int32) then (okl_lp_X10_execute_43 d u_3 u_6 u_10 n (x2 + 1) (mo8 u_17.2 u_17.1)) else (ok_X10_copies 249 u_17.2.2.1 (0 : Int32) 249 u_17.2.1 (0 : Int32) ∧ True)))))
def f_X10_execute (d : MoV) : Int32 × MoV := (let u_3 : Int32 × MoV := (f_X10_isProgram d); (if u_3.1 = (0 : Int32) then (let u_23 : MoV := (f_X10_isThrown (mo14 u_3.2 (0 : Int32)) (1 : Int32) (1 : Int32)); ((0 : Int32), (mo6 u_23 u_23.2.2.2.2.2.2.2.2.2.2.2.2.2.2.2.1))) else (let u_6 : MoV := (f_X10_isThrown (mo14 u_3.2 (0 : Int32)) (0 : Int32) (1 : Int32)); (let u_10 : MoV := (f_X10_keeps u_6); (lp_X10_execute_43 d u_3 u_6 u_10 62 (0 : Int32) u_10)))))
def ok_X10_execute (d : MoV) : Prop := (ok_X10_isProgram d ∧ (let u_3 : Int32 × MoV := (f_X10_isProgram d); (if u_3.1 = (0 : Int32) then True else (let u_6 : MoV := (f_X10_isThrown (mo14 u_3.2 (0 : Int32)) (0 : Int32) (1 : Int32)); (ok_X10_keeps u_6 ∧ (let u_10 : MoV := (f_X10_keeps u_6); (okl_lp_X10_execute_43 d u_3 u_6 u_10 62 (0 : Int32) u_10)))))))
set_option maxHeartbeats 4000000 in
set_option maxRecDepth 100000 in
set_option linter.constructorNameAsVariable false in
theorem c_X10_execute (l : Launch) (G : GG) (dh0 : Nat) (dh1 : Nat) (dh2 : Nat) (dh3 : Nat) (dh4 : Nat) (dh5 : Nat) (dh6 : Nat) (dh7 : Nat) (sz : Nat) (d : MoV) (hok : ok_X10_execute d) : wMet l yX10_execute cX10_execute 3 (some .int) 10 0 0 G (fl [wMo G dh0 dh1 dh2 dh3 dh4 dh5 dh6 dh7 d]) [.ref dh0] sz (fun u : Int32 × MoV => some (.int u.1)) (fun u : Int32 × MoV => u = f_X10_execute d) (fun u : Int32 × MoV => fl [wMo G dh0 dh1 dh2 dh3 dh4 dh5 dh6 dh7 u.2]) := by
  refine w_start (by decide +kernel) (Nat.le_of_ble_eq_true rfl) ?_
  intro p e s m below meth c A hx hb hr hml hts hown hlk hin hP hD hA hK hST ls hl
  have hS : va_S A s.heap s.heap [] := va_S.rf
  have hown : s.vm.findClass RX10 = some m.cls := hown
  have hl : lv_has ls 3 [(0, .ref dh0)] := hl
  have hF : f_X10_execute d = (let u_3 : Int32 × MoV := (f_X10_isProgram d); (if u_3.1 = (0 : Int32) then (let u_23 : MoV := (f_X10_isThrown (mo14 u_3.2 (0 : Int32)) (1 : Int32) (1 : Int32)); ((0 : Int32), (mo6 u_23 u_23.2.2.2.2.2.2.2.2.2.2.2.2.2.2.2.1))) else (let u_6 : MoV := (f_X10_isThrown (mo14 u_3.2 (0 : Int32)) (0 : Int32) (1 : Int32)); (let u_10 : MoV := (f_X10_keeps u_6); (lp_X10_execute_43 d u_3 u_6 u_10 62 (0 : Int32) u_10))))) := rfl
  have hok : (ok_X10_isProgram d ∧ (let u_3 : Int32 × MoV := (f_X10_isProgram d); (if u_3.1 = (0 : Int32) then True else (let u_6 : MoV := (f_X10_isThrown (mo14 u_3.2 (0 : Int32)) (0 : Int32) (1 : Int32)); (ok_X10_keeps u_6 ∧ (let u_10 : MoV := (f_X10_keeps u_6); (okl_lp_X10_execute_43 d u_3 u_6 u_10 62 (0 : Int32) u_10))))))) := hok
  refine lv_aload_n hx hb dX10_execute_0 rfl (lv_at hl 0 rfl) ?_
  have k_1 := hok.1
  have hok := hok.2
  refine w_V (own := RX10) (cs := [wMo G dh0 dh1 dh2 dh3 dh4 dh5 dh6 dh7 d]) (rs := []) (As := []) (rest := []) (c_X10_isProgram l G dh0 dh1 dh2 dh3 dh4 dh5 dh6 dh7 s.heap.size d k_1) ⟨hx, hb, hml, hown, hts⟩ g_X10_242 hdv_X10_isProgram hK hST hS hP hD hA [0] [] rfl rfl rfl (k0 := 0) rfl rfl rfl ⟨Nat.le_of_ble_eq_true rfl, Nat.le_of_ble_eq_true rfl⟩ ⟨Nat.le_of_ble_eq_true rfl, Nat.le_of_ble_eq_true rfl⟩ rfl hl.1 rfl (Nat.le_of_ble_eq_true rfl) dX10_execute_1 (fun u_3 H locs huu hP hD hS => ?_)
  obtain ⟨huu, b_2⟩ := huu
  rw [← huu] at b_2
  have eu_3 := huu
  have hP : va_P G.1 vwCl (fl [wMo G dh0 dh1 dh2 dh3 dh4 dh5 dh6 dh7 u_3.2]) H := hP
  have hD : va_D A (fl [wMo G dh0 dh1 dh2 dh3 dh4 dh5 dh6 dh7 u_3.2]) := hD
  refine W.eq (g2 := F0 m 4 ls [.int u_3.1]) rfl ?_
  have hF : f_X10_execute d = (if u_3.1 = (0 : Int32) then (let u_23 : MoV := (f_X10_isThrown (mo14 u_3.2 (0 : Int32)) (1 : Int32) (1 : Int32)); ((0 : Int32), (mo6 u_23 u_23.2.2.2.2.2.2.2.2.2.2.2.2.2.2.2.1))) else (let u_6 : MoV := (f_X10_isThrown (mo14 u_3.2 (0 : Int32)) (0 : Int32) (1 : Int32)); (let u_10 : MoV := (f_X10_keeps u_6); (lp_X10_execute_43 d u_3 u_6 u_10 62 (0 : Int32) u_10)))) := by subst eu_3; exact hF
  have hok : (if u_3.1 = (0 : Int32) then True else (let u_6 : MoV := (f_X10_isThrown (mo14 u_3.2 (0 : Int32)) (0 : Int32) (1 : Int32)); (ok_X10_keeps u_6 ∧ (let u_10 : MoV := (f_X10_keeps u_6); (okl_lp_X10_execute_43 d u_3 u_6 u_10 62 (0 : Int32) u_10))))) := by subst eu_3; exact hok
  refine lv_istore_n (lv' := [(1, .int u_3.1), (0, .ref dh0)]) hx hb dX10_execute_4 rfl hl (by decide) rfl (fun ls hl => ?_)
  refine lv_aload_n hx hb dX10_execute_5 rfl (lv_at hl 1 rfl) ?_
  refine lv_iconst (v := (0 : Int32)) hx hb dX10_execute_6 (by decide) ?_
  refine va_put (D := G.1) (ci := 12) (v := .int (0 : Int32)) (ty := .int) (C := RX10) (T := TX10) (N := 17) hx hb hts uws_X10 tyX10 tyX10_ok nmX10 hown hK hP hD hS 0 rfl rfl 14 (by decide) (hts _ u_1694) (fun _ h9 => h9) rfl (by decide +kernel) rfl rfl (Nat.le_of_ble_eq_true rfl) dX10_execute_7 (fun H locs hP hD hS => ?_)
  have hP : va_P G.1 vwCl (fl [wMo G dh0 dh1 dh2 dh3 dh4 dh5 dh6 dh7 (mo14 u_3.2 (0 : Int32))]) H := hP
  have hD : va_D A (fl [wMo G dh0 dh1 dh2 dh3 dh4 dh5 dh6 dh7 (mo14 u_3.2 (0 : Int32))]) := hD
  refine lv_aload_n hx hb dX10_execute_10 rfl (lv_at hl 1 rfl) ?_
  refine lv_iload_n hx hb dX10_execute_11 rfl (lv_at hl 0 rfl) ?_
  refine lv_if_ne (tgt := 19) hx hb dX10_execute_12 (by decide) (fun c_4 => ?_) (fun c_4 => ?_)
  · have hF := hF.trans (if_neg c_4)
    have hok := Eq.mp (if_neg c_4) hok
    refine lv_iconst (v := (0 : Int32)) hx hb dX10_execute_19 (by decide) ?_
    refine lv_iconst (v := (1 : Int32)) hx hb dX10_execute_20 (by decide) ?_
    refine w_V (own := RX10) (cs := [wMo G dh0 dh1 dh2 dh3 dh4 dh5 dh6 dh7 (mo14 u_3.2 (0 : Int32))]) (rs := []) (As := [.int (0 : Int32), .int (1 : Int32)]) (rest := []) (c_X10_isThrown l G dh0 dh1 dh2 dh3 dh4 dh5 dh6 dh7 H.size (mo14 u_3.2 (0 : Int32)) (0 : Int32) (1 : Int32) (rfl)) ⟨hx, hb, hml, hown, hts⟩ g_X10_63 hdv_X10_isThrown hK hST hS hP hD hA [0] [] rfl rfl rfl (k0 := 0) rfl rfl rfl ⟨Nat.le_of_ble_eq_true rfl, Nat.le_of_ble_eq_true rfl⟩ ⟨Nat.le_of_ble_eq_true rfl, Nat.le_of_ble_eq_true rfl⟩ rfl hl.1 rfl (Nat.le_of_ble_eq_true rfl) dX10_execute_21 (fun u_6 H locs huu hP hD hS => ?_)
    have eu_6 := huu
    have hP : va_P G.1 vwCl (fl [wMo G dh0 dh1 dh2 dh3 dh4 dh5 dh6 dh7 u_6]) H := hP
    have hD : va_D A (fl [wMo G dh0 dh1 dh2 dh3 dh4 dh5 dh6 dh7 u_6]) := hD
    refine W.eq (g2 := F0 m 24 ls [.int (0 : Int32)]) rfl ?_
    have hF : f_X10_execute d = (let u_10 : MoV := (f_X10_keeps u_6); (lp_X10_execute_43 d u_3 u_6 u_10 62 (0 : Int32) u_10)) := by subst eu_6; exact hF
    have hok : (ok_X10_keeps u_6 ∧ (let u_10 : MoV := (f_X10_keeps u_6); (okl_lp_X10_execute_43 d u_3 u_6 u_10 62 (0 : Int32) u_10))) := by subst eu_6; exact hok
    refine lv_if_eq (tgt := 37) hx hb dX10_execute_24 (by decide) (fun c_7 => ?_) (fun c_7 => ?_)
    · refine lv_aload_n hx hb dX10_execute_37 rfl (lv_at hl 1 rfl) ?_
      have k_8 := hok.1
      have hok := hok.2
      refine w_V (own := RX10) (cs := [wMo G dh0 dh1 dh2 dh3 dh4 dh5 dh6 dh7 u_6]) (rs := []) (As := []) (rest := []) (c_X10_keeps l G dh0 dh1 dh2 dh3 dh4 dh5 dh6 dh7 H.size u_6 k_8) ⟨hx, hb, hml, hown, hts⟩ g_X10_56 hdv_X10_keeps hK hST hS hP hD hA [0] [] rfl rfl rfl (k0 := 0) rfl rfl rfl ⟨Nat.le_of_ble_eq_true rfl, Nat.le_of_ble_eq_true rfl⟩ ⟨Nat.le_of_ble_eq_true rfl, Nat.le_of_ble_eq_true rfl⟩ rfl hl.1 rfl (Nat.le_of_ble_eq_true rfl) dX10_execute_38 (fun u_10 H locs huu hP hD hS => ?_)
      have eu_10 := huu
      have hP : va_P G.1 vwCl (fl [wMo G dh0 dh1 dh2 dh3 dh4 dh5 dh6 dh7 u_10]) H := hP
      have hD : va_D A (fl [wMo G dh0 dh1 dh2 dh3 dh4 dh5 dh6 dh7 u_10]) := hD
      refine W.eq (g2 := F0 m 41 ls []) rfl ?_
      have hF : f_X10_execute d = (lp_X10_execute_43 d u_3 u_6 u_10 62 (0 : Int32) u_10) := by subst eu_10; exact hF
      have hok : (okl_lp_X10_execute_43 d u_3 u_6 u_10 62 (0 : Int32) u_10) := by subst eu_10; exact hok
      refine lv_iconst (v := (0 : Int32)) hx hb dX10_execute_41 (by decide) ?_
      refine lv_istore_n (lv' := [(2, .int (0 : Int32)), (1, .int u_3.1), (0, .ref dh0)]) hx hb dX10_execute_42 rfl hl (by decide) rfl (fun ls hl => ?_)
      have L43 : ∀ (n : Nat) (x2 : Int32) (dL : MoV) (H : Heap) (locs : List Loc) (ls : Array Slot), lv_has ls 3 [(2, .int x2), (1, .int u_3.1), (0, .ref dh0)] → va_P G.1 vwCl (fl [wMo G dh0 dh1 dh2 dh3 dh4 dh5 dh6 dh7 dL]) H → va_D A (fl [wMo G dh0 dh1 dh2 dh3 dh4 dh5 dh6 dh7 dL]) → va_S A s.heap H locs → (True) → f_X10_execute d = lp_X10_execute_43 d u_3 u_6 u_10 n x2 dL → okl_lp_X10_execute_43 d u_3 u_6 u_10 n x2 dL → W p l e (rmd 10 0 0) s m ([.ref dh0] : List Value).toArray below meth c H locs 0 0 (MQ below (wQ (fun u : Int32 × MoV => some (.int u.1)) (fun u : Int32 × MoV => u = f_X10_execute d) (fun u : Int32 × MoV => fl [wMo G dh0 dh1 dh2 dh3 dh4 dh5 dh6 dh7 u.2]) G.1 A) ([.ref dh0] : List Value).toArray s 0 0 A) (F0 m 43 ls []) := by
        intro n
        induction n with
        | zero => intro x2 dL H locs ls hl _ _ _ hu hF hok; exact hok.elim
        | succ n ih =>
          intro x2 dL H locs ls hl hP hD hS hu hF hok
          have hF : f_X10_execute d = (if dL.2.2.2.2.2.2.2.2.2.2.2.2.2.2.2.2 ≤ x2 then (let u_14 : Int32 × MoV := (f_X10_ends dL dL.2.2.2.2.2.2.2.2.2.2.2.2.2.2.2.2); (u_14.1, u_14.2)) else (let u_17 : Int32 × MoV := (f_X10_does (mo5 dL (0 : Int32)) ((3 : Int32) * x2)); (if u_17.2.2.2.2.2.2.1 = (0 : Int32) then (lp_X10_execute_43 d u_3 u_6 u_10 n (x2 + 1) (mo8 u_17.2 u_17.1)) else (let u_21 : (Nat → Int32) := (f_X10_copies 249 u_17.2.2.1 (0 : Int32) 249 u_17.2.1 (0 : Int32)); ((0 : Int32), (mo8 (mo7 (mo5 (mo0 u_17.2 u_21) (2 : Int32)) x2) u_17.1)))))) := hF
          have hok : (if dL.2.2.2.2.2.2.2.2.2.2.2.2.2.2.2.2 ≤ x2 then (ok_X10_ends dL dL.2.2.2.2.2.2.2.2.2.2.2.2.2.2.2.2 ∧ True) else (ok_X10_does (mo5 dL (0 : Int32)) ((3 : Int32) * x2) ∧ (let u_17 : Int32 × MoV := (f_X10_does (mo5 dL (0 : Int32)) ((3 : Int32) * x2)); (if u_17.2.2.2.2.2.2.1 = (0 : Int32) then (okl_lp_X10_execute_43 d u_3 u_6 u_10 n (x2 + 1) (mo8 u_17.2 u_17.1)) else (ok_X10_copies 249 u_17.2.2.1 (0 : Int32) 249 u_17.2.1 (0 : Int32) ∧ True))))) := hok
          refine lv_iload_n hx hb dX10_execute_43 rfl (lv_at hl 0 rfl) ?_
          refine lv_aload_n hx hb dX10_execute_44 rfl (lv_at hl 2 rfl) ?_
          refine va_get (D := G.1) (ci := 12) (v := .int dL.2.2.2.2.2.2.2.2.2.2.2.2.2.2.2.2) (C := RX10) (T := TX10) (N := 17) hx hb hts uws_X10 hown hK hP 0 rfl rfl 16 (by decide) (hts _ u_1696) (fun _ h9 => h9) rfl dX10_execute_45 ?_
          refine lv_icmp_ge (tgt := 105) hx hb dX10_execute_48 (by decide) (fun c_11 => ?_) (fun c_11 => ?_)
          · have hF := hF.trans (if_pos c_11)
            have hok := Eq.mp (if_pos c_11) hok
            refine lv_aload_n hx hb dX10_execute_105 rfl (lv_at hl 2 rfl) ?_
            refine lv_aload_n hx hb dX10_execute_106 rfl (lv_at hl 2 rfl) ?_
            refine va_get (D := G.1) (ci := 12) (v := .int dL.2.2.2.2.2.2.2.2.2.2.2.2.2.2.2.2) (C := RX10) (T := TX10) (N := 17) hx hb hts uws_X10 hown hK hP 0 rfl rfl 16 (by decide) (hts _ u_1696) (fun _ h9 => h9) rfl dX10_execute_107 ?_
            have k_12 := hok.1
            have hok := hok.2
            refine w_V (own := RX10) (cs := [wMo G dh0 dh1 dh2 dh3 dh4 dh5 dh6 dh7 dL]) (rs := []) (As := [.int dL.2.2.2.2.2.2.2.2.2.2.2.2.2.2.2.2]) (rest := []) (c_X10_ends l G dh0 dh1 dh2 dh3 dh4 dh5 dh6 dh7 H.size dL dL.2.2.2.2.2.2.2.2.2.2.2.2.2.2.2.2 k_12) ⟨hx, hb, hml, hown, hts⟩ g_X10_71 hdv_X10_ends hK hST hS hP hD hA [0] [] rfl rfl rfl (k0 := 0) rfl rfl rfl ⟨Nat.le_of_ble_eq_true rfl, Nat.le_of_ble_eq_true rfl⟩ ⟨Nat.le_of_ble_eq_true rfl, Nat.le_of_ble_eq_true rfl⟩ rfl hl.1 rfl (Nat.le_of_ble_eq_true rfl) dX10_execute_110 (fun u_14 H locs huu hP hD hS => ?_)
            have eu_14 := huu
            have hP : va_P G.1 vwCl (fl [wMo G dh0 dh1 dh2 dh3 dh4 dh5 dh6 dh7 u_14.2]) H := hP
            have hD : va_D A (fl [wMo G dh0 dh1 dh2 dh3 dh4 dh5 dh6 dh7 u_14.2]) := hD
            refine W.eq (g2 := F0 m 113 ls [.int u_14.1]) rfl ?_
            have hF : f_X10_execute d = (u_14.1, u_14.2) := by subst eu_14; exact hF
            exact w_ret (u := (u_14.1, u_14.2)) hx hb hr hlk rfl hS rfl hF.symm hP hD (Nat.le_of_ble_eq_true rfl) (Nat.le_of_ble_eq_true rfl) dX10_execute_113
          · have hF := hF.trans (if_neg c_11)
            have hok := Eq.mp (if_neg c_11) hok
            refine lv_aload_n hx hb dX10_execute_51 rfl (lv_at hl 2 rfl) ?_
            refine lv_iconst (v := (0 : Int32)) hx hb dX10_execute_52 (by decide) ?_
            refine va_put (D := G.1) (ci := 12) (v := .int (0 : Int32)) (ty := .int) (C := RX10) (T := TX10) (N := 17) hx hb hts uws_X10 tyX10 tyX10_ok nmX10 hown hK hP hD hS 0 rfl rfl 5 (by decide) (hts _ u_1685) (fun _ h9 => h9) rfl (by decide +kernel) rfl rfl (Nat.le_of_ble_eq_true rfl) dX10_execute_53 (fun H locs hP hD hS => ?_)
            have hP : va_P G.1 vwCl (fl [wMo G dh0 dh1 dh2 dh3 dh4 dh5 dh6 dh7 (mo5 dL (0 : Int32))]) H := hP
            have hD : va_D A (fl [wMo G dh0 dh1 dh2 dh3 dh4 dh5 dh6 dh7 (mo5 dL (0 : Int32))]) := hD
            refine lv_aload_n hx hb dX10_execute_56 rfl (lv_at hl 2 rfl) ?_
            refine lv_aload_n hx hb dX10_execute_57 rfl (lv_at hl 2 rfl) ?_
            refine lv_iconst (v := (3 : Int32)) hx hb dX10_execute_58 (by decide) ?_
            refine lv_iload_n hx hb dX10_execute_59 rfl (lv_at hl 0 rfl) ?_
            refine lv_imul hx hb dX10_execute_60 ?_
            have k_15 := hok.1
            have hok := hok.2
            refine w_V (own := RX10) (cs := [wMo G dh0 dh1 dh2 dh3 dh4 dh5 dh6 dh7 (mo5 dL (0 : Int32))]) (rs := []) (As := [.int ((3 : Int32) * x2)]) (rest := [.ref dh0]) (c_X10_does l G dh0 dh1 dh2 dh3 dh4 dh5 dh6 dh7 H.size (mo5 dL (0 : Int32)) ((3 : Int32) * x2) k_15) ⟨hx, hb, hml, hown, hts⟩ g_X10_245 hdv_X10_does hK hST hS hP hD hA [0] [] rfl rfl rfl (k0 := 0) rfl rfl rfl ⟨Nat.le_of_ble_eq_true rfl, Nat.le_of_ble_eq_true rfl⟩ ⟨Nat.le_of_ble_eq_true rfl, Nat.le_of_ble_eq_true rfl⟩ rfl hl.1 rfl (Nat.le_of_ble_eq_true rfl) dX10_execute_61 (fun u_17 H locs huu hP hD hS => ?_)
            have eu_17 := huu
            have hP : va_P G.1 vwCl (fl [wMo G dh0 dh1 dh2 dh3 dh4 dh5 dh6 dh7 u_17.2]) H := hP
            have hD : va_D A (fl [wMo G dh0 dh1 dh2 dh3 dh4 dh5 dh6 dh7 u_17.2]) := hD
            refine W.eq (g2 := F0 m 64 ls [.int u_17.1, .ref dh0]) rfl ?_
            have hF : f_X10_execute d = (if u_17.2.2.2.2.2.2.1 = (0 : Int32) then (lp_X10_execute_43 d u_3 u_6 u_10 n (x2 + 1) (mo8 u_17.2 u_17.1)) else (let u_21 : (Nat → Int32) := (f_X10_copies 249 u_17.2.2.1 (0 : Int32) 249 u_17.2.1 (0 : Int32)); ((0 : Int32), (mo8 (mo7 (mo5 (mo0 u_17.2 u_21) (2 : Int32)) x2) u_17.1)))) := by subst eu_17; exact hF
            have hok : (if u_17.2.2.2.2.2.2.1 = (0 : Int32) then (okl_lp_X10_execute_43 d u_3 u_6 u_10 n (x2 + 1) (mo8 u_17.2 u_17.1)) else (ok_X10_copies 249 u_17.2.2.1 (0 : Int32) 249 u_17.2.1 (0 : Int32) ∧ True)) := by subst eu_17; exact hok
            refine va_put (D := G.1) (ci := 12) (v := .int u_17.1) (ty := .int) (C := RX10) (T := TX10) (N := 17) hx hb hts uws_X10 tyX10 tyX10_ok nmX10 hown hK hP hD hS 0 rfl rfl 8 (by decide) (hts _ u_1688) (fun _ h9 => h9) rfl (by decide +kernel) rfl rfl (Nat.le_of_ble_eq_true rfl) dX10_execute_64 (fun H locs hP hD hS => ?_)
            have hP : va_P G.1 vwCl (fl [wMo G dh0 dh1 dh2 dh3 dh4 dh5 dh6 dh7 (mo8 u_17.2 u_17.1)]) H := hP
            have hD : va_D A (fl [wMo G dh0 dh1 dh2 dh3 dh4 dh5 dh6 dh7 (mo8 u_17.2 u_17.1)]) := hD
            refine lv_aload_n hx hb dX10_execute_67 rfl (lv_at hl 2 rfl) ?_
            refine va_get (D := G.1) (ci := 12) (v := .int u_17.2.2.2.2.2.2.1) (C := RX10) (T := TX10) (N := 17) hx hb hts uws_X10 hown hK hP 0 rfl rfl 5 (by decide) (hts _ u_1685) (fun _ h9 => h9) rfl dX10_execute_68 ?_
            refine lv_if_eq (tgt := 99) hx hb dX10_execute_71 (by decide) (fun c_18 => ?_) (fun c_18 => ?_)
            · have hF := hF.trans (if_pos c_18)
              have hok := Eq.mp (if_pos c_18) hok
              refine lv_iinc (v := (x2 + 1)) (lv' := [(2, .int (x2 + 1)), (1, .int u_3.1), (0, .ref dh0)]) hx hb dX10_execute_99 hl (k := 0) rfl rfl (by decide) rfl (fun ls hl => ?_)
              refine lv_goto (tgt := 43) hx hb dX10_execute_102 (by decide) ?_
              exact ih (x2 + 1) (mo8 u_17.2 u_17.1) _ _ ls (lv_sub hl [0, 1, 2] rfl) hP hD hS (trivial) hF hok
            · have hF := hF.trans (if_neg c_18)
              have hok := Eq.mp (if_neg c_18) hok
              refine lv_aload_n hx hb dX10_execute_74 rfl (lv_at hl 2 rfl) ?_
              refine va_get (D := G.1) (ci := 12) (v := .ref dh2) (C := RX10) (T := TX10) (N := 17) hx hb hts uws_X10 hown hK hP 0 rfl rfl 1 (by decide) (hts _ u_1681) (fun _ h9 => h9) rfl dX10_execute_75 ?_
              refine lv_iconst (v := (0 : Int32)) hx hb dX10_execute_78 (by decide) ?_
              refine lv_aload_n hx hb dX10_execute_79 rfl (lv_at hl 2 rfl) ?_
              refine va_get (D := G.1) (ci := 12) (v := .ref dh1) (C := RX10) (T := TX10) (N := 17) hx hb hts uws_X10 hown hK hP 0 rfl rfl 0 (by decide) (hts _ u_1680) (fun _ h9 => h9) rfl dX10_execute_80 ?_
              refine lv_iconst (v := (0 : Int32)) hx hb dX10_execute_83 (by decide) ?_
              have k_19 := hok.1
              have hok := hok.2
              have hP : va_P G.1 vwCl (fl [[(dh0, .inr (12, [.ref dh1, .ref dh2, .ref dh3, .ref dh4, .int u_17.2.2.2.2.2.1, .int u_17.2.2.2.2.2.2.1, .int u_17.2.2.2.2.2.2.2.1, .int u_17.2.2.2.2.2.2.2.2.1, .int u_17.1, .int u_17.2.2.2.2.2.2.2.2.2.2.1, .ref dh5, .int u_17.2.2.2.2.2.2.2.2.2.2.2.2.1, .ref dh6, .ref dh7, .int u_17.2.2.2.2.2.2.2.2.2.2.2.2.2.2.2.1, .int u_17.2.2.2.2.2.2.2.2.2.2.2.2.2.2.2.2.1, .int u_17.2.2.2.2.2.2.2.2.2.2.2.2.2.2.2.2.2]))], [cArr G dh1 249 u_17.2.1], [cArr G dh2 249 u_17.2.2.1], [cArr G dh3 249 u_17.2.2.2.1], [cArr G dh4 1992 u_17.2.2.2.2.1], [cArr G dh5 40 u_17.2.2.2.2.2.2.2.2.2.2.2.1], [cArr G dh6 60 u_17.2.2.2.2.2.2.2.2.2.2.2.2.2.1], [cArr G dh7 93 u_17.2.2.2.2.2.2.2.2.2.2.2.2.2.2.1]]) H := hP
              have hD : va_D A (fl [[(dh0, .inr (12, [.ref dh1, .ref dh2, .ref dh3, .ref dh4, .int u_17.2.2.2.2.2.1, .int u_17.2.2.2.2.2.2.1, .int u_17.2.2.2.2.2.2.2.1, .int u_17.2.2.2.2.2.2.2.2.1, .int u_17.1, .int u_17.2.2.2.2.2.2.2.2.2.2.1, .ref dh5, .int u_17.2.2.2.2.2.2.2.2.2.2.2.2.1, .ref dh6, .ref dh7, .int u_17.2.2.2.2.2.2.2.2.2.2.2.2.2.2.2.1, .int u_17.2.2.2.2.2.2.2.2.2.2.2.2.2.2.2.2.1, .int u_17.2.2.2.2.2.2.2.2.2.2.2.2.2.2.2.2.2]))], [cArr G dh1 249 u_17.2.1], [cArr G dh2 249 u_17.2.2.1], [cArr G dh3 249 u_17.2.2.2.1], [cArr G dh4 1992 u_17.2.2.2.2.1], [cArr G dh5 40 u_17.2.2.2.2.2.2.2.2.2.2.2.1], [cArr G dh6 60 u_17.2.2.2.2.2.2.2.2.2.2.2.2.2.1], [cArr G dh7 93 u_17.2.2.2.2.2.2.2.2.2.2.2.2.2.2.1]]) := hD
              refine w_S (own := RX10) (cs := [[cArr G dh2 249 u_17.2.2.1], [cArr G dh1 249 u_17.2.1]]) (rs := [[(dh0, .inr (12, [.ref dh1, .ref dh2, .ref dh3, .ref dh4, .int u_17.2.2.2.2.2.1, .int u_17.2.2.2.2.2.2.1, .int u_17.2.2.2.2.2.2.2.1, .int u_17.2.2.2.2.2.2.2.2.1, .int u_17.1, .int u_17.2.2.2.2.2.2.2.2.2.2.1, .ref dh5, .int u_17.2.2.2.2.2.2.2.2.2.2.2.2.1, .ref dh6, .ref dh7, .int u_17.2.2.2.2.2.2.2.2.2.2.2.2.2.2.2.1, .int u_17.2.2.2.2.2.2.2.2.2.2.2.2.2.2.2.2.1, .int u_17.2.2.2.2.2.2.2.2.2.2.2.2.2.2.2.2.2]))], [cArr G dh3 249 u_17.2.2.2.1], [cArr G dh4 1992 u_17.2.2.2.2.1], [cArr G dh5 40 u_17.2.2.2.2.2.2.2.2.2.2.2.1], [cArr G dh6 60 u_17.2.2.2.2.2.2.2.2.2.2.2.2.2.1], [cArr G dh7 93 u_17.2.2.2.2.2.2.2.2.2.2.2.2.2.2.1]]) (As := [.ref dh2, .int (0 : Int32), .ref dh1, .int (0 : Int32)]) (rest := []) (c_X10_copies l G dh2 dh1 H.size 249 u_17.2.2.1 (0 : Int32) 249 u_17.2.1 (0 : Int32) k_19) ⟨hx, hb, hml, hown, hts⟩ g_X10_41 hds_X10_copies hK hST hS hP hD hA [2, 1] [0, 3, 4, 5, 6, 7] rfl rfl rfl ⟨Nat.le_of_ble_eq_true rfl, Nat.le_of_ble_eq_true rfl⟩ ⟨Nat.le_of_ble_eq_true rfl, Nat.le_of_ble_eq_true rfl⟩ rfl hl.1 rfl (Nat.le_of_ble_eq_true rfl) dX10_execute_84 (fun u_21 H locs huu hP hD hS => ?_)
              have eu_21 := huu
              have hP : va_P G.1 vwCl (fl [[cArr G dh2 249 u_17.2.2.1], [cArr G dh1 249 u_21], [(dh0, .inr (12, [.ref dh1, .ref dh2, .ref dh3, .ref dh4, .int u_17.2.2.2.2.2.1, .int u_17.2.2.2.2.2.2.1, .int u_17.2.2.2.2.2.2.2.1, .int u_17.2.2.2.2.2.2.2.2.1, .int u_17.1, .int u_17.2.2.2.2.2.2.2.2.2.2.1, .ref dh5, .int u_17.2.2.2.2.2.2.2.2.2.2.2.2.1, .ref dh6, .ref dh7, .int u_17.2.2.2.2.2.2.2.2.2.2.2.2.2.2.2.1, .int u_17.2.2.2.2.2.2.2.2.2.2.2.2.2.2.2.2.1, .int u_17.2.2.2.2.2.2.2.2.2.2.2.2.2.2.2.2.2]))], [cArr G dh3 249 u_17.2.2.2.1], [cArr G dh4 1992 u_17.2.2.2.2.1], [cArr G dh5 40 u_17.2.2.2.2.2.2.2.2.2.2.2.1], [cArr G dh6 60 u_17.2.2.2.2.2.2.2.2.2.2.2.2.2.1], [cArr G dh7 93 u_17.2.2.2.2.2.2.2.2.2.2.2.2.2.2.1]]) H := hP
              have hD : va_D A (fl [[cArr G dh2 249 u_17.2.2.1], [cArr G dh1 249 u_21], [(dh0, .inr (12, [.ref dh1, .ref dh2, .ref dh3, .ref dh4, .int u_17.2.2.2.2.2.1, .int u_17.2.2.2.2.2.2.1, .int u_17.2.2.2.2.2.2.2.1, .int u_17.2.2.2.2.2.2.2.2.1, .int u_17.1, .int u_17.2.2.2.2.2.2.2.2.2.2.1, .ref dh5, .int u_17.2.2.2.2.2.2.2.2.2.2.2.2.1, .ref dh6, .ref dh7, .int u_17.2.2.2.2.2.2.2.2.2.2.2.2.2.2.2.1, .int u_17.2.2.2.2.2.2.2.2.2.2.2.2.2.2.2.2.1, .int u_17.2.2.2.2.2.2.2.2.2.2.2.2.2.2.2.2.2]))], [cArr G dh3 249 u_17.2.2.2.1], [cArr G dh4 1992 u_17.2.2.2.2.1], [cArr G dh5 40 u_17.2.2.2.2.2.2.2.2.2.2.2.1], [cArr G dh6 60 u_17.2.2.2.2.2.2.2.2.2.2.2.2.2.1], [cArr G dh7 93 u_17.2.2.2.2.2.2.2.2.2.2.2.2.2.2.1]]) := hD
              refine W.eq (g2 := F0 m 87 ls []) rfl ?_
              have hF : f_X10_execute d = ((0 : Int32), (mo8 (mo7 (mo5 (mo0 u_17.2 u_21) (2 : Int32)) x2) u_17.1)) := by subst eu_21; exact hF
              refine lv_aload_n hx hb dX10_execute_87 rfl (lv_at hl 2 rfl) ?_
              refine lv_iload_n hx hb dX10_execute_88 rfl (lv_at hl 0 rfl) ?_
              refine va_put (D := G.1) (ci := 12) (v := .int x2) (ty := .int) (C := RX10) (T := TX10) (N := 17) hx hb hts uws_X10 tyX10 tyX10_ok nmX10 hown hK hP hD hS 2 rfl rfl 7 (by decide) (hts _ u_1687) (fun _ h9 => h9) rfl (by decide +kernel) rfl rfl (Nat.le_of_ble_eq_true rfl) dX10_execute_89 (fun H locs hP hD hS => ?_)
              have hP : va_P G.1 vwCl (fl [[cArr G dh2 249 u_17.2.2.1], [cArr G dh1 249 u_21], [(dh0, .inr (12, [.ref dh1, .ref dh2, .ref dh3, .ref dh4, .int u_17.2.2.2.2.2.1, .int u_17.2.2.2.2.2.2.1, .int u_17.2.2.2.2.2.2.2.1, .int x2, .int u_17.1, .int u_17.2.2.2.2.2.2.2.2.2.2.1, .ref dh5, .int u_17.2.2.2.2.2.2.2.2.2.2.2.2.1, .ref dh6, .ref dh7, .int u_17.2.2.2.2.2.2.2.2.2.2.2.2.2.2.2.1, .int u_17.2.2.2.2.2.2.2.2.2.2.2.2.2.2.2.2.1, .int u_17.2.2.2.2.2.2.2.2.2.2.2.2.2.2.2.2.2]))], [cArr G dh3 249 u_17.2.2.2.1], [cArr G dh4 1992 u_17.2.2.2.2.1], [cArr G dh5 40 u_17.2.2.2.2.2.2.2.2.2.2.2.1], [cArr G dh6 60 u_17.2.2.2.2.2.2.2.2.2.2.2.2.2.1], [cArr G dh7 93 u_17.2.2.2.2.2.2.2.2.2.2.2.2.2.2.1]]) H := hP
              have hD : va_D A (fl [[cArr G dh2 249 u_17.2.2.1], [cArr G dh1 249 u_21], [(dh0, .inr (12, [.ref dh1, .ref dh2, .ref dh3, .ref dh4, .int u_17.2.2.2.2.2.1, .int u_17.2.2.2.2.2.2.1, .int u_17.2.2.2.2.2.2.2.1, .int x2, .int u_17.1, .int u_17.2.2.2.2.2.2.2.2.2.2.1, .ref dh5, .int u_17.2.2.2.2.2.2.2.2.2.2.2.2.1, .ref dh6, .ref dh7, .int u_17.2.2.2.2.2.2.2.2.2.2.2.2.2.2.2.1, .int u_17.2.2.2.2.2.2.2.2.2.2.2.2.2.2.2.2.1, .int u_17.2.2.2.2.2.2.2.2.2.2.2.2.2.2.2.2.2]))], [cArr G dh3 249 u_17.2.2.2.1], [cArr G dh4 1992 u_17.2.2.2.2.1], [cArr G dh5 40 u_17.2.2.2.2.2.2.2.2.2.2.2.1], [cArr G dh6 60 u_17.2.2.2.2.2.2.2.2.2.2.2.2.2.1], [cArr G dh7 93 u_17.2.2.2.2.2.2.2.2.2.2.2.2.2.2.1]]) := hD
              refine lv_aload_n hx hb dX10_execute_92 rfl (lv_at hl 2 rfl) ?_
              refine lv_iconst (v := (2 : Int32)) hx hb dX10_execute_93 (by decide) ?_
              refine va_put (D := G.1) (ci := 12) (v := .int (2 : Int32)) (ty := .int) (C := RX10) (T := TX10) (N := 17) hx hb hts uws_X10 tyX10 tyX10_ok nmX10 hown hK hP hD hS 2 rfl rfl 5 (by decide) (hts _ u_1685) (fun _ h9 => h9) rfl (by decide +kernel) rfl rfl (Nat.le_of_ble_eq_true rfl) dX10_execute_94 (fun H locs hP hD hS => ?_)
              have hP : va_P G.1 vwCl (fl [[cArr G dh2 249 u_17.2.2.1], [cArr G dh1 249 u_21], [(dh0, .inr (12, [.ref dh1, .ref dh2, .ref dh3, .ref dh4, .int u_17.2.2.2.2.2.1, .int (2 : Int32), .int u_17.2.2.2.2.2.2.2.1, .int x2, .int u_17.1, .int u_17.2.2.2.2.2.2.2.2.2.2.1, .ref dh5, .int u_17.2.2.2.2.2.2.2.2.2.2.2.2.1, .ref dh6, .ref dh7, .int u_17.2.2.2.2.2.2.2.2.2.2.2.2.2.2.2.1, .int u_17.2.2.2.2.2.2.2.2.2.2.2.2.2.2.2.2.1, .int u_17.2.2.2.2.2.2.2.2.2.2.2.2.2.2.2.2.2]))], [cArr G dh3 249 u_17.2.2.2.1], [cArr G dh4 1992 u_17.2.2.2.2.1], [cArr G dh5 40 u_17.2.2.2.2.2.2.2.2.2.2.2.1], [cArr G dh6 60 u_17.2.2.2.2.2.2.2.2.2.2.2.2.2.1], [cArr G dh7 93 u_17.2.2.2.2.2.2.2.2.2.2.2.2.2.2.1]]) H := hP
              have hD : va_D A (fl [[cArr G dh2 249 u_17.2.2.1], [cArr G dh1 249 u_21], [(dh0, .inr (12, [.ref dh1, .ref dh2, .ref dh3, .ref dh4, .int u_17.2.2.2.2.2.1, .int (2 : Int32), .int u_17.2.2.2.2.2.2.2.1, .int x2, .int u_17.1, .int u_17.2.2.2.2.2.2.2.2.2.2.1, .ref dh5, .int u_17.2.2.2.2.2.2.2.2.2.2.2.2.1, .ref dh6, .ref dh7, .int u_17.2.2.2.2.2.2.2.2.2.2.2.2.2.2.2.1, .int u_17.2.2.2.2.2.2.2.2.2.2.2.2.2.2.2.2.1, .int u_17.2.2.2.2.2.2.2.2.2.2.2.2.2.2.2.2.2]))], [cArr G dh3 249 u_17.2.2.2.1], [cArr G dh4 1992 u_17.2.2.2.2.1], [cArr G dh5 40 u_17.2.2.2.2.2.2.2.2.2.2.2.1], [cArr G dh6 60 u_17.2.2.2.2.2.2.2.2.2.2.2.2.2.1], [cArr G dh7 93 u_17.2.2.2.2.2.2.2.2.2.2.2.2.2.2.1]]) := hD
              refine lv_iconst (v := (0 : Int32)) hx hb dX10_execute_97 (by decide) ?_
              have hP := fl_sub (cs := [[(dh0, .inr (12, [.ref dh1, .ref dh2, .ref dh3, .ref dh4, .int u_17.2.2.2.2.2.1, .int (2 : Int32), .int u_17.2.2.2.2.2.2.2.1, .int x2, .int u_17.1, .int u_17.2.2.2.2.2.2.2.2.2.2.1, .ref dh5, .int u_17.2.2.2.2.2.2.2.2.2.2.2.2.1, .ref dh6, .ref dh7, .int u_17.2.2.2.2.2.2.2.2.2.2.2.2.2.2.2.1, .int u_17.2.2.2.2.2.2.2.2.2.2.2.2.2.2.2.2.1, .int u_17.2.2.2.2.2.2.2.2.2.2.2.2.2.2.2.2.2]))], [cArr G dh1 249 u_21], [cArr G dh2 249 u_17.2.2.1], [cArr G dh3 249 u_17.2.2.2.1], [cArr G dh4 1992 u_17.2.2.2.2.1], [cArr G dh5 40 u_17.2.2.2.2.2.2.2.2.2.2.2.1], [cArr G dh6 60 u_17.2.2.2.2.2.2.2.2.2.2.2.2.2.1], [cArr G dh7 93 u_17.2.2.2.2.2.2.2.2.2.2.2.2.2.2.1]]) [2, 1, 0, 3, 4, 5, 6, 7] rfl hP
              have hD := fl_subD (cs := [[(dh0, .inr (12, [.ref dh1, .ref dh2, .ref dh3, .ref dh4, .int u_17.2.2.2.2.2.1, .int (2 : Int32), .int u_17.2.2.2.2.2.2.2.1, .int x2, .int u_17.1, .int u_17.2.2.2.2.2.2.2.2.2.2.1, .ref dh5, .int u_17.2.2.2.2.2.2.2.2.2.2.2.2.1, .ref dh6, .ref dh7, .int u_17.2.2.2.2.2.2.2.2.2.2.2.2.2.2.2.1, .int u_17.2.2.2.2.2.2.2.2.2.2.2.2.2.2.2.2.1, .int u_17.2.2.2.2.2.2.2.2.2.2.2.2.2.2.2.2.2]))], [cArr G dh1 249 u_21], [cArr G dh2 249 u_17.2.2.1], [cArr G dh3 249 u_17.2.2.2.1], [cArr G dh4 1992 u_17.2.2.2.2.1], [cArr G dh5 40 u_17.2.2.2.2.2.2.2.2.2.2.2.1], [cArr G dh6 60 u_17.2.2.2.2.2.2.2.2.2.2.2.2.2.1], [cArr G dh7 93 u_17.2.2.2.2.2.2.2.2.2.2.2.2.2.2.1]]) [2, 1, 0, 3, 4, 5, 6, 7] rfl rfl hD
              exact w_ret (u := ((0 : Int32), (mo8 (mo7 (mo5 (mo0 u_17.2 u_21) (2 : Int32)) x2) u_17.1))) hx hb hr hlk rfl hS rfl hF.symm hP hD (Nat.le_of_ble_eq_true rfl) (Nat.le_of_ble_eq_true rfl) dX10_execute_98
      exact L43 62 (0 : Int32) u_10 _ _ ls (lv_sub hl [0, 1, 2] rfl) hP hD hS (trivial) hF hok
    · exact absurd c_7 (by decide)
  · have hF := hF.trans (if_pos c_4)
    have hok := Eq.mp (if_pos c_4) hok
    refine lv_iconst (v := (1 : Int32)) hx hb dX10_execute_15 (by decide) ?_
    refine lv_goto (tgt := 20) hx hb dX10_execute_16 (by decide) ?_
    refine lv_iconst (v := (1 : Int32)) hx hb dX10_execute_20 (by decide) ?_
    refine w_V (own := RX10) (cs := [wMo G dh0 dh1 dh2 dh3 dh4 dh5 dh6 dh7 (mo14 u_3.2 (0 : Int32))]) (rs := []) (As := [.int (1 : Int32), .int (1 : Int32)]) (rest := []) (c_X10_isThrown l G dh0 dh1 dh2 dh3 dh4 dh5 dh6 dh7 H.size (mo14 u_3.2 (0 : Int32)) (1 : Int32) (1 : Int32) (rfl)) ⟨hx, hb, hml, hown, hts⟩ g_X10_63 hdv_X10_isThrown hK hST hS hP hD hA [0] [] rfl rfl rfl (k0 := 0) rfl rfl rfl ⟨Nat.le_of_ble_eq_true rfl, Nat.le_of_ble_eq_true rfl⟩ ⟨Nat.le_of_ble_eq_true rfl, Nat.le_of_ble_eq_true rfl⟩ rfl hl.1 rfl (Nat.le_of_ble_eq_true rfl) dX10_execute_21 (fun u_23 H locs huu hP hD hS => ?_)
    have eu_23 := huu
    have hP : va_P G.1 vwCl (fl [wMo G dh0 dh1 dh2 dh3 dh4 dh5 dh6 dh7 u_23]) H := hP
    have hD : va_D A (fl [wMo G dh0 dh1 dh2 dh3 dh4 dh5 dh6 dh7 u_23]) := hD
    refine W.eq (g2 := F0 m 24 ls [.int (1 : Int32)]) rfl ?_
    have hF : f_X10_execute d = ((0 : Int32), (mo6 u_23 u_23.2.2.2.2.2.2.2.2.2.2.2.2.2.2.2.1)) := by subst eu_23; exact hF
    refine lv_if_eq (tgt := 37) hx hb dX10_execute_24 (by decide) (fun c_24 => ?_) (fun c_24 => ?_)
    · exact absurd c_24 (by decide)
    · refine lv_aload_n hx hb dX10_execute_27 rfl (lv_at hl 1 rfl) ?_
      refine lv_aload_n hx hb dX10_execute_28 rfl (lv_at hl 1 rfl) ?_
      refine va_get (D := G.1) (ci := 12) (v := .int u_23.2.2.2.2.2.2.2.2.2.2.2.2.2.2.2.1) (C := RX10) (T := TX10) (N := 17) hx hb hts uws_X10 hown hK hP 0 rfl rfl 15 (by decide) (hts _ u_1695) (fun _ h9 => h9) rfl dX10_execute_29 ?_
      refine va_put (D := G.1) (ci := 12) (v := .int u_23.2.2.2.2.2.2.2.2.2.2.2.2.2.2.2.1) (ty := .int) (C := RX10) (T := TX10) (N := 17) hx hb hts uws_X10 tyX10 tyX10_ok nmX10 hown hK hP hD hS 0 rfl rfl 6 (by decide) (hts _ u_1686) (fun _ h9 => h9) rfl (by decide +kernel) rfl rfl (Nat.le_of_ble_eq_true rfl) dX10_execute_32 (fun H locs hP hD hS => ?_)
      have hP : va_P G.1 vwCl (fl [wMo G dh0 dh1 dh2 dh3 dh4 dh5 dh6 dh7 (mo6 u_23 u_23.2.2.2.2.2.2.2.2.2.2.2.2.2.2.2.1)]) H := hP
      have hD : va_D A (fl [wMo G dh0 dh1 dh2 dh3 dh4 dh5 dh6 dh7 (mo6 u_23 u_23.2.2.2.2.2.2.2.2.2.2.2.2.2.2.2.1)]) := hD
      refine lv_iconst (v := (0 : Int32)) hx hb dX10_execute_35 (by decide) ?_
      exact w_ret (u := ((0 : Int32), (mo6 u_23 u_23.2.2.2.2.2.2.2.2.2.2.2.2.2.2.2.1))) hx hb hr hlk rfl hS rfl hF.symm hP hD (Nat.le_of_ble_eq_true rfl) (Nat.le_of_ble_eq_true rfl) dX10_execute_36
theorem dX10_errorPosition_0 : decode cX10_errorPosition 0 = .ok (.aload_n 0, 1) := by decide +kernel
theorem dX10_errorPosition_1 : decode cX10_errorPosition 1 = .ok (.aload_n 0, 1) := by decide +kernel
theorem dX10_errorPosition_2 : decode cX10_errorPosition 2 = .ok (.getfield 22, 3) := by decide +kernel
theorem dX10_errorPosition_5 : decode cX10_errorPosition 5 = .ok (.ifCond .ge 7, 3) := by decide +kernel
theorem dX10_errorPosition_12 : decode cX10_errorPosition 12 = .ok (.iconst 0, 1) := by decide +kernel
theorem dX10_errorPosition_13 : decode cX10_errorPosition 13 = .ok (.iconst 1, 1) := by decide +kernel
theorem dX10_errorPosition_14 : decode cX10_errorPosition 14 = .ok (.invokevirtual 63, 3) := by decide +kernel
theorem dX10_errorPosition_17 : decode cX10_errorPosition 17 = .ok (.ifCond .eq 7, 3) := by decide +kernel
theorem dX10_errorPosition_24 : decode cX10_errorPosition 24 = .ok (.aload_n 0, 1) := by decide +kernel
theorem dX10_errorPosition_25 : decode cX10_errorPosition 25 = .ok (.getfield 22, 3) := by decide +kernel
theorem dX10_errorPosition_28 : decode cX10_errorPosition 28 = .ok (.ireturn, 1) := by decide +kernel
theorem dX10_errorPosition_8 : decode cX10_errorPosition 8 = .ok (.iconst 1, 1) := by decide +kernel
theorem dX10_errorPosition_9 : decode cX10_errorPosition 9 = .ok (.goto 4, 3) := by decide +kernel
theorem dX10_errorPosition_20 : decode cX10_errorPosition 20 = .ok (.iconst 0, 1) := by decide +kernel
theorem dX10_errorPosition_21 : decode cX10_errorPosition 21 = .ok (.goto 7, 3) := by decide +kernel
def f_X10_errorPosition (d : MoV) : Int32 × MoV := (if (0 : Int32) ≤ d.2.2.2.2.2.2.1 then (let u_3 : MoV := (f_X10_isThrown d (0 : Int32) (1 : Int32)); (u_3.2.2.2.2.2.2.1, u_3)) else (let u_6 : MoV := (f_X10_isThrown d (1 : Int32) (1 : Int32)); ((0 : Int32), u_6)))
set_option maxHeartbeats 4000000 in
set_option maxRecDepth 100000 in
theorem c_X10_errorPosition (l : Launch) (G : GG) (dh0 : Nat) (dh1 : Nat) (dh2 : Nat) (dh3 : Nat) (dh4 : Nat) (dh5 : Nat) (dh6 : Nat) (dh7 : Nat) (sz : Nat) (d : MoV) : wMet l yX10_errorPosition cX10_errorPosition 1 (some .int) 2 0 0 G (fl [wMo G dh0 dh1 dh2 dh3 dh4 dh5 dh6 dh7 d]) [.ref dh0] sz (fun u : Int32 × MoV => some (.int u.1)) (fun u : Int32 × MoV => u = f_X10_errorPosition d) (fun u : Int32 × MoV => fl [wMo G dh0 dh1 dh2 dh3 dh4 dh5 dh6 dh7 u.2]) := by
  refine w_start (by decide +kernel) (Nat.le_of_ble_eq_true rfl) ?_
  intro p e s m below meth c A hx hb hr hml hts hown hlk hin hP hD hA hK hST ls hl
  have hS : va_S A s.heap s.heap [] := va_S.rf
  have hown : s.vm.findClass RX10 = some m.cls := hown
  have hl : lv_has ls 1 [(0, .ref dh0)] := hl
  have hF : f_X10_errorPosition d = (if (0 : Int32) ≤ d.2.2.2.2.2.2.1 then (let u_3 : MoV := (f_X10_isThrown d (0 : Int32) (1 : Int32)); (u_3.2.2.2.2.2.2.1, u_3)) else (let u_6 : MoV := (f_X10_isThrown d (1 : Int32) (1 : Int32)); ((0 : Int32), u_6))) := rfl
  refine lv_aload_n hx hb dX10_errorPosition_0 rfl (lv_at hl 0 rfl) ?_
  refine lv_aload_n hx hb dX10_errorPosition_1 rfl (lv_at hl 0 rfl) ?_
  refine va_get (D := G.1) (ci := 12) (v := .int d.2.2.2.2.2.2.1) (C := RX10) (T := TX10) (N := 17) hx hb hts uws_X10 hown hK hP 0 rfl rfl 6 (by decide) (hts _ u_1686) (fun _ h9 => h9) rfl dX10_errorPosition_2 ?_
  refine lv_if_ge (tgt := 12) hx hb dX10_errorPosition_5 (by decide) (fun c_1 => ?_) (fun c_1 => ?_)
  · have hF := hF.trans (if_pos c_1)
    refine lv_iconst (v := (0 : Int32)) hx hb dX10_errorPosition_12 (by decide) ?_
    refine lv_iconst (v := (1 : Int32)) hx hb dX10_errorPosition_13 (by decide) ?_
    refine w_V (own := RX10) (cs := [wMo G dh0 dh1 dh2 dh3 dh4 dh5 dh6 dh7 d]) (rs := []) (As := [.int (0 : Int32), .int (1 : Int32)]) (rest := []) (c_X10_isThrown l G dh0 dh1 dh2 dh3 dh4 dh5 dh6 dh7 s.heap.size d (0 : Int32) (1 : Int32) (rfl)) ⟨hx, hb, hml, hown, hts⟩ g_X10_63 hdv_X10_isThrown hK hST hS hP hD hA [0] [] rfl rfl rfl (k0 := 0) rfl rfl rfl ⟨Nat.le_of_ble_eq_true rfl, Nat.le_of_ble_eq_true rfl⟩ ⟨Nat.le_of_ble_eq_true rfl, Nat.le_of_ble_eq_true rfl⟩ rfl hl.1 rfl (Nat.le_of_ble_eq_true rfl) dX10_errorPosition_14 (fun u_3 H locs huu hP hD hS => ?_)
    have eu_3 := huu
    have hP : va_P G.1 vwCl (fl [wMo G dh0 dh1 dh2 dh3 dh4 dh5 dh6 dh7 u_3]) H := hP
    have hD : va_D A (fl [wMo G dh0 dh1 dh2 dh3 dh4 dh5 dh6 dh7 u_3]) := hD
    refine W.eq (g2 := F0 m 17 ls [.int (0 : Int32)]) rfl ?_
    have hF : f_X10_errorPosition d = (u_3.2.2.2.2.2.2.1, u_3) := by subst eu_3; exact hF
    refine lv_if_eq (tgt := 24) hx hb dX10_errorPosition_17 (by decide) (fun c_4 => ?_) (fun c_4 => ?_)
    · refine lv_aload_n hx hb dX10_errorPosition_24 rfl (lv_at hl 0 rfl) ?_
      refine va_get (D := G.1) (ci := 12) (v := .int u_3.2.2.2.2.2.2.1) (C := RX10) (T := TX10) (N := 17) hx hb hts uws_X10 hown hK hP 0 rfl rfl 6 (by decide) (hts _ u_1686) (fun _ h9 => h9) rfl dX10_errorPosition_25 ?_
      exact w_ret (u := (u_3.2.2.2.2.2.2.1, u_3)) hx hb hr hlk rfl hS rfl hF.symm hP hD (Nat.le_of_ble_eq_true rfl) (Nat.le_of_ble_eq_true rfl) dX10_errorPosition_28
    · exact absurd c_4 (by decide)
  · have hF := hF.trans (if_neg c_1)
    refine lv_iconst (v := (1 : Int32)) hx hb dX10_errorPosition_8 (by decide) ?_
    refine lv_goto (tgt := 13) hx hb dX10_errorPosition_9 (by decide) ?_
    refine lv_iconst (v := (1 : Int32)) hx hb dX10_errorPosition_13 (by decide) ?_
    refine w_V (own := RX10) (cs := [wMo G dh0 dh1 dh2 dh3 dh4 dh5 dh6 dh7 d]) (rs := []) (As := [.int (1 : Int32), .int (1 : Int32)]) (rest := []) (c_X10_isThrown l G dh0 dh1 dh2 dh3 dh4 dh5 dh6 dh7 s.heap.size d (1 : Int32) (1 : Int32) (rfl)) ⟨hx, hb, hml, hown, hts⟩ g_X10_63 hdv_X10_isThrown hK hST hS hP hD hA [0] [] rfl rfl rfl (k0 := 0) rfl rfl rfl ⟨Nat.le_of_ble_eq_true rfl, Nat.le_of_ble_eq_true rfl⟩ ⟨Nat.le_of_ble_eq_true rfl, Nat.le_of_ble_eq_true rfl⟩ rfl hl.1 rfl (Nat.le_of_ble_eq_true rfl) dX10_errorPosition_14 (fun u_6 H locs huu hP hD hS => ?_)
    have eu_6 := huu
    have hP : va_P G.1 vwCl (fl [wMo G dh0 dh1 dh2 dh3 dh4 dh5 dh6 dh7 u_6]) H := hP
    have hD : va_D A (fl [wMo G dh0 dh1 dh2 dh3 dh4 dh5 dh6 dh7 u_6]) := hD
    refine W.eq (g2 := F0 m 17 ls [.int (1 : Int32)]) rfl ?_
    have hF : f_X10_errorPosition d = ((0 : Int32), u_6) := by subst eu_6; exact hF
    refine lv_if_eq (tgt := 24) hx hb dX10_errorPosition_17 (by decide) (fun c_7 => ?_) (fun c_7 => ?_)
    · exact absurd c_7 (by decide)
    · refine lv_iconst (v := (0 : Int32)) hx hb dX10_errorPosition_20 (by decide) ?_
      refine lv_goto (tgt := 28) hx hb dX10_errorPosition_21 (by decide) ?_
      exact w_ret (u := ((0 : Int32), u_6)) hx hb hr hlk rfl hS rfl hF.symm hP hD (Nat.le_of_ble_eq_true rfl) (Nat.le_of_ble_eq_true rfl) dX10_errorPosition_28
theorem dX10_failedCommand_0 : decode cX10_failedCommand 0 = .ok (.aload_n 0, 1) := by decide +kernel
theorem dX10_failedCommand_1 : decode cX10_failedCommand 1 = .ok (.aload_n 0, 1) := by decide +kernel
theorem dX10_failedCommand_2 : decode cX10_failedCommand 2 = .ok (.getfield 26, 3) := by decide +kernel
theorem dX10_failedCommand_5 : decode cX10_failedCommand 5 = .ok (.ifCond .ge 7, 3) := by decide +kernel
theorem dX10_failedCommand_12 : decode cX10_failedCommand 12 = .ok (.iconst 0, 1) := by decide +kernel
theorem dX10_failedCommand_13 : decode cX10_failedCommand 13 = .ok (.iconst 1, 1) := by decide +kernel
theorem dX10_failedCommand_14 : decode cX10_failedCommand 14 = .ok (.invokevirtual 63, 3) := by decide +kernel
theorem dX10_failedCommand_17 : decode cX10_failedCommand 17 = .ok (.ifCond .eq 7, 3) := by decide +kernel
theorem dX10_failedCommand_24 : decode cX10_failedCommand 24 = .ok (.aload_n 0, 1) := by decide +kernel
theorem dX10_failedCommand_25 : decode cX10_failedCommand 25 = .ok (.getfield 26, 3) := by decide +kernel
theorem dX10_failedCommand_28 : decode cX10_failedCommand 28 = .ok (.ireturn, 1) := by decide +kernel
theorem dX10_failedCommand_8 : decode cX10_failedCommand 8 = .ok (.iconst 1, 1) := by decide +kernel
theorem dX10_failedCommand_9 : decode cX10_failedCommand 9 = .ok (.goto 4, 3) := by decide +kernel
theorem dX10_failedCommand_20 : decode cX10_failedCommand 20 = .ok (.iconst 0, 1) := by decide +kernel
theorem dX10_failedCommand_21 : decode cX10_failedCommand 21 = .ok (.goto 7, 3) := by decide +kernel
def f_X10_failedCommand (d : MoV) : Int32 × MoV := (if (0 : Int32) ≤ d.2.2.2.2.2.2.2.1 then (let u_3 : MoV := (f_X10_isThrown d (0 : Int32) (1 : Int32)); (u_3.2.2.2.2.2.2.2.1, u_3)) else (let u_6 : MoV := (f_X10_isThrown d (1 : Int32) (1 : Int32)); ((0 : Int32), u_6)))
set_option maxHeartbeats 4000000 in
set_option maxRecDepth 100000 in
theorem c_X10_failedCommand (l : Launch) (G : GG) (dh0 : Nat) (dh1 : Nat) (dh2 : Nat) (dh3 : Nat) (dh4 : Nat) (dh5 : Nat) (dh6 : Nat) (dh7 : Nat) (sz : Nat) (d : MoV) : wMet l yX10_failedCommand cX10_failedCommand 1 (some .int) 2 0 0 G (fl [wMo G dh0 dh1 dh2 dh3 dh4 dh5 dh6 dh7 d]) [.ref dh0] sz (fun u : Int32 × MoV => some (.int u.1)) (fun u : Int32 × MoV => u = f_X10_failedCommand d) (fun u : Int32 × MoV => fl [wMo G dh0 dh1 dh2 dh3 dh4 dh5 dh6 dh7 u.2]) := by
  refine w_start (by decide +kernel) (Nat.le_of_ble_eq_true rfl) ?_
  intro p e s m below meth c A hx hb hr hml hts hown hlk hin hP hD hA hK hST ls hl
  have hS : va_S A s.heap s.heap [] := va_S.rf
  have hown : s.vm.findClass RX10 = some m.cls := hown
  have hl : lv_has ls 1 [(0, .ref dh0)] := hl
  have hF : f_X10_failedCommand d = (if (0 : Int32) ≤ d.2.2.2.2.2.2.2.1 then (let u_3 : MoV := (f_X10_isThrown d (0 : Int32) (1 : Int32)); (u_3.2.2.2.2.2.2.2.1, u_3)) else (let u_6 : MoV := (f_X10_isThrown d (1 : Int32) (1 : Int32)); ((0 : Int32), u_6))) := rfl
  refine lv_aload_n hx hb dX10_failedCommand_0 rfl (lv_at hl 0 rfl) ?_
  refine lv_aload_n hx hb dX10_failedCommand_1 rfl (lv_at hl 0 rfl) ?_
  refine va_get (D := G.1) (ci := 12) (v := .int d.2.2.2.2.2.2.2.1) (C := RX10) (T := TX10) (N := 17) hx hb hts uws_X10 hown hK hP 0 rfl rfl 7 (by decide) (hts _ u_1687) (fun _ h9 => h9) rfl dX10_failedCommand_2 ?_
  refine lv_if_ge (tgt := 12) hx hb dX10_failedCommand_5 (by decide) (fun c_1 => ?_) (fun c_1 => ?_)
  · have hF := hF.trans (if_pos c_1)
    refine lv_iconst (v := (0 : Int32)) hx hb dX10_failedCommand_12 (by decide) ?_
    refine lv_iconst (v := (1 : Int32)) hx hb dX10_failedCommand_13 (by decide) ?_
    refine w_V (own := RX10) (cs := [wMo G dh0 dh1 dh2 dh3 dh4 dh5 dh6 dh7 d]) (rs := []) (As := [.int (0 : Int32), .int (1 : Int32)]) (rest := []) (c_X10_isThrown l G dh0 dh1 dh2 dh3 dh4 dh5 dh6 dh7 s.heap.size d (0 : Int32) (1 : Int32) (rfl)) ⟨hx, hb, hml, hown, hts⟩ g_X10_63 hdv_X10_isThrown hK hST hS hP hD hA [0] [] rfl rfl rfl (k0 := 0) rfl rfl rfl ⟨Nat.le_of_ble_eq_true rfl, Nat.le_of_ble_eq_true rfl⟩ ⟨Nat.le_of_ble_eq_true rfl, Nat.le_of_ble_eq_true rfl⟩ rfl hl.1 rfl (Nat.le_of_ble_eq_true rfl) dX10_failedCommand_14 (fun u_3 H locs huu hP hD hS => ?_)
    have eu_3 := huu
    have hP : va_P G.1 vwCl (fl [wMo G dh0 dh1 dh2 dh3 dh4 dh5 dh6 dh7 u_3]) H := hP
    have hD : va_D A (fl [wMo G dh0 dh1 dh2 dh3 dh4 dh5 dh6 dh7 u_3]) := hD
    refine W.eq (g2 := F0 m 17 ls [.int (0 : Int32)]) rfl ?_
    have hF : f_X10_failedCommand d = (u_3.2.2.2.2.2.2.2.1, u_3) := by subst eu_3; exact hF
    refine lv_if_eq (tgt := 24) hx hb dX10_failedCommand_17 (by decide) (fun c_4 => ?_) (fun c_4 => ?_)
    · refine lv_aload_n hx hb dX10_failedCommand_24 rfl (lv_at hl 0 rfl) ?_
      refine va_get (D := G.1) (ci := 12) (v := .int u_3.2.2.2.2.2.2.2.1) (C := RX10) (T := TX10) (N := 17) hx hb hts uws_X10 hown hK hP 0 rfl rfl 7 (by decide) (hts _ u_1687) (fun _ h9 => h9) rfl dX10_failedCommand_25 ?_
      exact w_ret (u := (u_3.2.2.2.2.2.2.2.1, u_3)) hx hb hr hlk rfl hS rfl hF.symm hP hD (Nat.le_of_ble_eq_true rfl) (Nat.le_of_ble_eq_true rfl) dX10_failedCommand_28
    · exact absurd c_4 (by decide)
  · have hF := hF.trans (if_neg c_1)
    refine lv_iconst (v := (1 : Int32)) hx hb dX10_failedCommand_8 (by decide) ?_
    refine lv_goto (tgt := 13) hx hb dX10_failedCommand_9 (by decide) ?_
    refine lv_iconst (v := (1 : Int32)) hx hb dX10_failedCommand_13 (by decide) ?_
    refine w_V (own := RX10) (cs := [wMo G dh0 dh1 dh2 dh3 dh4 dh5 dh6 dh7 d]) (rs := []) (As := [.int (1 : Int32), .int (1 : Int32)]) (rest := []) (c_X10_isThrown l G dh0 dh1 dh2 dh3 dh4 dh5 dh6 dh7 s.heap.size d (1 : Int32) (1 : Int32) (rfl)) ⟨hx, hb, hml, hown, hts⟩ g_X10_63 hdv_X10_isThrown hK hST hS hP hD hA [0] [] rfl rfl rfl (k0 := 0) rfl rfl rfl ⟨Nat.le_of_ble_eq_true rfl, Nat.le_of_ble_eq_true rfl⟩ ⟨Nat.le_of_ble_eq_true rfl, Nat.le_of_ble_eq_true rfl⟩ rfl hl.1 rfl (Nat.le_of_ble_eq_true rfl) dX10_failedCommand_14 (fun u_6 H locs huu hP hD hS => ?_)
    have eu_6 := huu
    have hP : va_P G.1 vwCl (fl [wMo G dh0 dh1 dh2 dh3 dh4 dh5 dh6 dh7 u_6]) H := hP
    have hD : va_D A (fl [wMo G dh0 dh1 dh2 dh3 dh4 dh5 dh6 dh7 u_6]) := hD
    refine W.eq (g2 := F0 m 17 ls [.int (1 : Int32)]) rfl ?_
    have hF : f_X10_failedCommand d = ((0 : Int32), u_6) := by subst eu_6; exact hF
    refine lv_if_eq (tgt := 24) hx hb dX10_failedCommand_17 (by decide) (fun c_7 => ?_) (fun c_7 => ?_)
    · exact absurd c_7 (by decide)
    · refine lv_iconst (v := (0 : Int32)) hx hb dX10_failedCommand_20 (by decide) ?_
      refine lv_goto (tgt := 28) hx hb dX10_failedCommand_21 (by decide) ?_
      exact w_ret (u := ((0 : Int32), u_6)) hx hb hr hlk rfl hS rfl hF.symm hP hD (Nat.le_of_ble_eq_true rfl) (Nat.le_of_ble_eq_true rfl) dX10_failedCommand_28
theorem dX10_undo_0 : decode cX10_undo 0 = .ok (.aload_n 0, 1) := by decide +kernel
theorem dX10_undo_1 : decode cX10_undo 1 = .ok (.aload_n 0, 1) := by decide +kernel
theorem dX10_undo_2 : decode cX10_undo 2 = .ok (.getfield 45, 3) := by decide +kernel
theorem dX10_undo_5 : decode cX10_undo 5 = .ok (.ifCond .ne 7, 3) := by decide +kernel
theorem dX10_undo_12 : decode cX10_undo 12 = .ok (.iconst 0, 1) := by decide +kernel
theorem dX10_undo_13 : decode cX10_undo 13 = .ok (.iconst 1, 1) := by decide +kernel
theorem dX10_undo_14 : decode cX10_undo 14 = .ok (.invokevirtual 63, 3) := by decide +kernel
theorem dX10_undo_17 : decode cX10_undo 17 = .ok (.ifCond .eq 5, 3) := by decide +kernel
theorem dX10_undo_22 : decode cX10_undo 22 = .ok (.aload_n 0, 1) := by decide +kernel
theorem dX10_undo_23 : decode cX10_undo 23 = .ok (.dup, 1) := by decide +kernel
theorem dX10_undo_24 : decode cX10_undo 24 = .ok (.getfield 45, 3) := by decide +kernel
theorem dX10_undo_27 : decode cX10_undo 27 = .ok (.iconst 1, 1) := by decide +kernel
theorem dX10_undo_28 : decode cX10_undo 28 = .ok (.isub, 1) := by decide +kernel
theorem dX10_undo_29 : decode cX10_undo 29 = .ok (.putfield 45, 3) := by decide +kernel
theorem dX10_undo_32 : decode cX10_undo 32 = .ok (.aload_n 0, 1) := by decide +kernel
theorem dX10_undo_33 : decode cX10_undo 33 = .ok (.getfield 19, 3) := by decide +kernel
theorem dX10_undo_36 : decode cX10_undo 36 = .ok (.sipush 249, 3) := by decide +kernel
theorem dX10_undo_39 : decode cX10_undo 39 = .ok (.aload_n 0, 1) := by decide +kernel
theorem dX10_undo_40 : decode cX10_undo 40 = .ok (.getfield 45, 3) := by decide +kernel
theorem dX10_undo_43 : decode cX10_undo 43 = .ok (.imul, 1) := by decide +kernel
theorem dX10_undo_44 : decode cX10_undo 44 = .ok (.aload_n 0, 1) := by decide +kernel
theorem dX10_undo_45 : decode cX10_undo 45 = .ok (.getfield 9, 3) := by decide +kernel
theorem dX10_undo_48 : decode cX10_undo 48 = .ok (.iconst 0, 1) := by decide +kernel
theorem dX10_undo_49 : decode cX10_undo 49 = .ok (.invokestatic 41, 3) := by decide +kernel
theorem dX10_undo_52 : decode cX10_undo 52 = .ok (.aload_n 0, 1) := by decide +kernel
theorem dX10_undo_53 : decode cX10_undo 53 = .ok (.getfield 45, 3) := by decide +kernel
theorem dX10_undo_56 : decode cX10_undo 56 = .ok (.ireturn, 1) := by decide +kernel
theorem dX10_undo_8 : decode cX10_undo 8 = .ok (.iconst 1, 1) := by decide +kernel
theorem dX10_undo_9 : decode cX10_undo 9 = .ok (.goto 4, 3) := by decide +kernel
theorem dX10_undo_20 : decode cX10_undo 20 = .ok (.iconst 0, 1) := by decide +kernel
theorem dX10_undo_21 : decode cX10_undo 21 = .ok (.ireturn, 1) := by decide +kernel
def f_X10_undo (d : MoV) : Int32 × MoV := (if d.2.2.2.2.1 = (0 : Int32) then (let u_9 : MoV := (f_X10_isThrown d (1 : Int32) (1 : Int32)); ((0 : Int32), u_9)) else (let u_3 : MoV := (f_X10_isThrown d (0 : Int32) (1 : Int32)); (let u_7 : (Nat → Int32) := (f_X10_copies 1992 u_3.2.2.2.1 ((249 : Int32) * (u_3.2.2.2.2.1 - (1 : Int32))) 249 u_3.1 (0 : Int32)); ((u_3.2.2.2.2.1 - (1 : Int32)), (mo4 (mo0 u_3 u_7) (u_3.2.2.2.2.1 - (1 : Int32)))))))
def ok_X10_undo (d : MoV) : Prop := (if d.2.2.2.2.1 = (0 : Int32) then True else (let u_3 : MoV := (f_X10_isThrown d (0 : Int32) (1 : Int32)); (ok_X10_copies 1992 u_3.2.2.2.1 ((249 : Int32) * (u_3.2.2.2.2.1 - (1 : Int32))) 249 u_3.1 (0 : Int32) ∧ True)))
set_option maxHeartbeats 4000000 in
set_option maxRecDepth 100000 in
theorem c_X10_undo (l : Launch) (G : GG) (dh0 : Nat) (dh1 : Nat) (dh2 : Nat) (dh3 : Nat) (dh4 : Nat) (dh5 : Nat) (dh6 : Nat) (dh7 : Nat) (sz : Nat) (d : MoV) (hok : ok_X10_undo d) : wMet l yX10_undo cX10_undo 1 (some .int) 2 0 0 G (fl [wMo G dh0 dh1 dh2 dh3 dh4 dh5 dh6 dh7 d]) [.ref dh0] sz (fun u : Int32 × MoV => some (.int u.1)) (fun u : Int32 × MoV => u = f_X10_undo d) (fun u : Int32 × MoV => fl [wMo G dh0 dh1 dh2 dh3 dh4 dh5 dh6 dh7 u.2]) := by
  refine w_start (by decide +kernel) (Nat.le_of_ble_eq_true rfl) ?_
  intro p e s m below meth c A hx hb hr hml hts hown hlk hin hP hD hA hK hST ls hl
  have hS : va_S A s.heap s.heap [] := va_S.rf
  have hown : s.vm.findClass RX10 = some m.cls := hown
  have hl : lv_has ls 1 [(0, .ref dh0)] := hl
  have hF : f_X10_undo d = (if d.2.2.2.2.1 = (0 : Int32) then (let u_9 : MoV := (f_X10_isThrown d (1 : Int32) (1 : Int32)); ((0 : Int32), u_9)) else (let u_3 : MoV := (f_X10_isThrown d (0 : Int32) (1 : Int32)); (let u_7 : (Nat → Int32) := (f_X10_copies 1992 u_3.2.2.2.1 ((249 : Int32) * (u_3.2.2.2.2.1 - (1 : Int32))) 249 u_3.1 (0 : Int32)); ((u_3.2.2.2.2.1 - (1 : Int32)), (mo4 (mo0 u_3 u_7) (u_3.2.2.2.2.1 - (1 : Int32))))))) := rfl
  have hok : (if d.2.2.2.2.1 = (0 : Int32) then True else (let u_3 : MoV := (f_X10_isThrown d (0 : Int32) (1 : Int32)); (ok_X10_copies 1992 u_3.2.2.2.1 ((249 : Int32) * (u_3.2.2.2.2.1 - (1 : Int32))) 249 u_3.1 (0 : Int32) ∧ True))) := hok
  refine lv_aload_n hx hb dX10_undo_0 rfl (lv_at hl 0 rfl) ?_
  refine lv_aload_n hx hb dX10_undo_1 rfl (lv_at hl 0 rfl) ?_
  refine va_get (D := G.1) (ci := 12) (v := .int d.2.2.2.2.1) (C := RX10) (T := TX10) (N := 17) hx hb hts uws_X10 hown hK hP 0 rfl rfl 4 (by decide) (hts _ u_1684) (fun _ h9 => h9) rfl dX10_undo_2 ?_
  refine lv_if_ne (tgt := 12) hx hb dX10_undo_5 (by decide) (fun c_1 => ?_) (fun c_1 => ?_)
  · have hF := hF.trans (if_neg c_1)
    have hok := Eq.mp (if_neg c_1) hok
    refine lv_iconst (v := (0 : Int32)) hx hb dX10_undo_12 (by decide) ?_
    refine lv_iconst (v := (1 : Int32)) hx hb dX10_undo_13 (by decide) ?_
    refine w_V (own := RX10) (cs := [wMo G dh0 dh1 dh2 dh3 dh4 dh5 dh6 dh7 d]) (rs := []) (As := [.int (0 : Int32), .int (1 : Int32)]) (rest := []) (c_X10_isThrown l G dh0 dh1 dh2 dh3 dh4 dh5 dh6 dh7 s.heap.size d (0 : Int32) (1 : Int32) (rfl)) ⟨hx, hb, hml, hown, hts⟩ g_X10_63 hdv_X10_isThrown hK hST hS hP hD hA [0] [] rfl rfl rfl (k0 := 0) rfl rfl rfl ⟨Nat.le_of_ble_eq_true rfl, Nat.le_of_ble_eq_true rfl⟩ ⟨Nat.le_of_ble_eq_true rfl, Nat.le_of_ble_eq_true rfl⟩ rfl hl.1 rfl (Nat.le_of_ble_eq_true rfl) dX10_undo_14 (fun u_3 H locs huu hP hD hS => ?_)
    have eu_3 := huu
    have hP : va_P G.1 vwCl (fl [wMo G dh0 dh1 dh2 dh3 dh4 dh5 dh6 dh7 u_3]) H := hP
    have hD : va_D A (fl [wMo G dh0 dh1 dh2 dh3 dh4 dh5 dh6 dh7 u_3]) := hD
    refine W.eq (g2 := F0 m 17 ls [.int (0 : Int32)]) rfl ?_
    have hF : f_X10_undo d = (let u_7 : (Nat → Int32) := (f_X10_copies 1992 u_3.2.2.2.1 ((249 : Int32) * (u_3.2.2.2.2.1 - (1 : Int32))) 249 u_3.1 (0 : Int32)); ((u_3.2.2.2.2.1 - (1 : Int32)), (mo4 (mo0 u_3 u_7) (u_3.2.2.2.2.1 - (1 : Int32))))) := by subst eu_3; exact hF
    have hok : (ok_X10_copies 1992 u_3.2.2.2.1 ((249 : Int32) * (u_3.2.2.2.2.1 - (1 : Int32))) 249 u_3.1 (0 : Int32) ∧ True) := by subst eu_3; exact hok
    refine lv_if_eq (tgt := 22) hx hb dX10_undo_17 (by decide) (fun c_4 => ?_) (fun c_4 => ?_)
    · refine lv_aload_n hx hb dX10_undo_22 rfl (lv_at hl 0 rfl) ?_
      refine lv_dup hx hb dX10_undo_23 rfl ?_
      refine va_get (D := G.1) (ci := 12) (v := .int u_3.2.2.2.2.1) (C := RX10) (T := TX10) (N := 17) hx hb hts uws_X10 hown hK hP 0 rfl rfl 4 (by decide) (hts _ u_1684) (fun _ h9 => h9) rfl dX10_undo_24 ?_
      refine lv_iconst (v := (1 : Int32)) hx hb dX10_undo_27 (by decide) ?_
      refine lv_isub hx hb dX10_undo_28 ?_
      refine va_put (D := G.1) (ci := 12) (v := .int (u_3.2.2.2.2.1 - (1 : Int32))) (ty := .int) (C := RX10) (T := TX10) (N := 17) hx hb hts uws_X10 tyX10 tyX10_ok nmX10 hown hK hP hD hS 0 rfl rfl 4 (by decide) (hts _ u_1684) (fun _ h9 => h9) rfl (by decide +kernel) rfl rfl (Nat.le_of_ble_eq_true rfl) dX10_undo_29 (fun H locs hP hD hS => ?_)
      have hP : va_P G.1 vwCl (fl [wMo G dh0 dh1 dh2 dh3 dh4 dh5 dh6 dh7 (mo4 u_3 (u_3.2.2.2.2.1 - (1 : Int32)))]) H := hP
      have hD : va_D A (fl [wMo G dh0 dh1 dh2 dh3 dh4 dh5 dh6 dh7 (mo4 u_3 (u_3.2.2.2.2.1 - (1 : Int32)))]) := hD
      refine lv_aload_n hx hb dX10_undo_32 rfl (lv_at hl 0 rfl) ?_
      refine va_get (D := G.1) (ci := 12) (v := .ref dh4) (C := RX10) (T := TX10) (N := 17) hx hb hts uws_X10 hown hK hP 0 rfl rfl 3 (by decide) (hts _ u_1683) (fun _ h9 => h9) rfl dX10_undo_33 ?_
      refine lv_sipush (v := (249 : Int32)) hx hb dX10_undo_36 (by decide) ?_
      refine lv_aload_n hx hb dX10_undo_39 rfl (lv_at hl 0 rfl) ?_
      refine va_get (D := G.1) (ci := 12) (v := .int (u_3.2.2.2.2.1 - (1 : Int32))) (C := RX10) (T := TX10) (N := 17) hx hb hts uws_X10 hown hK hP 0 rfl rfl 4 (by decide) (hts _ u_1684) (fun _ h9 => h9) rfl dX10_undo_40 ?_
      refine lv_imul hx hb dX10_undo_43 ?_
      refine lv_aload_n hx hb dX10_undo_44 rfl (lv_at hl 0 rfl) ?_
      refine va_get (D := G.1) (ci := 12) (v := .ref dh1) (C := RX10) (T := TX10) (N := 17) hx hb hts uws_X10 hown hK hP 0 rfl rfl 0 (by decide) (hts _ u_1680) (fun _ h9 => h9) rfl dX10_undo_45 ?_
      refine lv_iconst (v := (0 : Int32)) hx hb dX10_undo_48 (by decide) ?_
      have k_5 := hok.1
      have hok := hok.2
      have hP : va_P G.1 vwCl (fl [[(dh0, .inr (12, [.ref dh1, .ref dh2, .ref dh3, .ref dh4, .int (u_3.2.2.2.2.1 - (1 : Int32)), .int u_3.2.2.2.2.2.1, .int u_3.2.2.2.2.2.2.1, .int u_3.2.2.2.2.2.2.2.1, .int u_3.2.2.2.2.2.2.2.2.1, .int u_3.2.2.2.2.2.2.2.2.2.1, .ref dh5, .int u_3.2.2.2.2.2.2.2.2.2.2.2.1, .ref dh6, .ref dh7, .int u_3.2.2.2.2.2.2.2.2.2.2.2.2.2.2.1, .int u_3.2.2.2.2.2.2.2.2.2.2.2.2.2.2.2.1, .int u_3.2.2.2.2.2.2.2.2.2.2.2.2.2.2.2.2]))], [cArr G dh1 249 u_3.1], [cArr G dh2 249 u_3.2.1], [cArr G dh3 249 u_3.2.2.1], [cArr G dh4 1992 u_3.2.2.2.1], [cArr G dh5 40 u_3.2.2.2.2.2.2.2.2.2.2.1], [cArr G dh6 60 u_3.2.2.2.2.2.2.2.2.2.2.2.2.1], [cArr G dh7 93 u_3.2.2.2.2.2.2.2.2.2.2.2.2.2.1]]) H := hP
      have hD : va_D A (fl [[(dh0, .inr (12, [.ref dh1, .ref dh2, .ref dh3, .ref dh4, .int (u_3.2.2.2.2.1 - (1 : Int32)), .int u_3.2.2.2.2.2.1, .int u_3.2.2.2.2.2.2.1, .int u_3.2.2.2.2.2.2.2.1, .int u_3.2.2.2.2.2.2.2.2.1, .int u_3.2.2.2.2.2.2.2.2.2.1, .ref dh5, .int u_3.2.2.2.2.2.2.2.2.2.2.2.1, .ref dh6, .ref dh7, .int u_3.2.2.2.2.2.2.2.2.2.2.2.2.2.2.1, .int u_3.2.2.2.2.2.2.2.2.2.2.2.2.2.2.2.1, .int u_3.2.2.2.2.2.2.2.2.2.2.2.2.2.2.2.2]))], [cArr G dh1 249 u_3.1], [cArr G dh2 249 u_3.2.1], [cArr G dh3 249 u_3.2.2.1], [cArr G dh4 1992 u_3.2.2.2.1], [cArr G dh5 40 u_3.2.2.2.2.2.2.2.2.2.2.1], [cArr G dh6 60 u_3.2.2.2.2.2.2.2.2.2.2.2.2.1], [cArr G dh7 93 u_3.2.2.2.2.2.2.2.2.2.2.2.2.2.1]]) := hD
      refine w_S (own := RX10) (cs := [[cArr G dh4 1992 u_3.2.2.2.1], [cArr G dh1 249 u_3.1]]) (rs := [[(dh0, .inr (12, [.ref dh1, .ref dh2, .ref dh3, .ref dh4, .int (u_3.2.2.2.2.1 - (1 : Int32)), .int u_3.2.2.2.2.2.1, .int u_3.2.2.2.2.2.2.1, .int u_3.2.2.2.2.2.2.2.1, .int u_3.2.2.2.2.2.2.2.2.1, .int u_3.2.2.2.2.2.2.2.2.2.1, .ref dh5, .int u_3.2.2.2.2.2.2.2.2.2.2.2.1, .ref dh6, .ref dh7, .int u_3.2.2.2.2.2.2.2.2.2.2.2.2.2.2.1, .int u_3.2.2.2.2.2.2.2.2.2.2.2.2.2.2.2.1, .int u_3.2.2.2.2.2.2.2.2.2.2.2.2.2.2.2.2]))], [cArr G dh2 249 u_3.2.1], [cArr G dh3 249 u_3.2.2.1], [cArr G dh5 40 u_3.2.2.2.2.2.2.2.2.2.2.1], [cArr G dh6 60 u_3.2.2.2.2.2.2.2.2.2.2.2.2.1], [cArr G dh7 93 u_3.2.2.2.2.2.2.2.2.2.2.2.2.2.1]]) (As := [.ref dh4, .int ((249 : Int32) * (u_3.2.2.2.2.1 - (1 : Int32))), .ref dh1, .int (0 : Int32)]) (rest := []) (c_X10_copies l G dh4 dh1 H.size 1992 u_3.2.2.2.1 ((249 : Int32) * (u_3.2.2.2.2.1 - (1 : Int32))) 249 u_3.1 (0 : Int32) k_5) ⟨hx, hb, hml, hown, hts⟩ g_X10_41 hds_X10_copies hK hST hS hP hD hA [4, 1] [0, 2, 3, 5, 6, 7] rfl rfl rfl ⟨Nat.le_of_ble_eq_true rfl, Nat.le_of_ble_eq_true rfl⟩ ⟨Nat.le_of_ble_eq_true rfl, Nat.le_of_ble_eq_true rfl⟩ rfl hl.1 rfl (Nat.le_of_ble_eq_true rfl) dX10_undo_49 (fun u_7 H locs huu hP hD hS => ?_)
      have eu_7 := huu
      have hP : va_P G.1 vwCl (fl [[cArr G dh4 1992 u_3.2.2.2.1], [cArr G dh1 249 u_7], [(dh0, .inr (12, [.ref dh1, .ref dh2, .ref dh3, .ref dh4, .int (u_3.2.2.2.2.1 - (1 : Int32)), .int u_3.2.2.2.2.2.1, .int u_3.2.2.2.2.2.2.1, .int u_3.2.2.2.2.2.2.2.1, .int u_3.2.2.2.2.2.2.2.2.1, .int u_3.2.2.2.2.2.2.2.2.2.1, .ref dh5, .int u_3.2.2.2.2.2.2.2.2.2.2.2.1, .ref dh6, .ref dh7, .int u_3.2.2.2.2.2.2.2.2.2.2.2.2.2.2.1, .int u_3.2.2.2.2.2.2.2.2.2.2.2.2.2.2.2.1, .int u_3.2.2.2.2.2.2.2.2.2.2.2.2.2.2.2.2]))], [cArr G dh2 249 u_3.2.1], [cArr G dh3 249 u_3.2.2.1], [cArr G dh5 40 u_3.2.2.2.2.2.2.2.2.2.2.1], [cArr G dh6 60 u_3.2.2.2.2.2.2.2.2.2.2.2.2.1], [cArr G dh7 93 u_3.2.2.2.2.2.2.2.2.2.2.2.2.2.1]]) H := hP
      have hD : va_D A (fl [[cArr G dh4 1992 u_3.2.2.2.1], [cArr G dh1 249 u_7], [(dh0, .inr (12, [.ref dh1, .ref dh2, .ref dh3, .ref dh4, .int (u_3.2.2.2.2.1 - (1 : Int32)), .int u_3.2.2.2.2.2.1, .int u_3.2.2.2.2.2.2.1, .int u_3.2.2.2.2.2.2.2.1, .int u_3.2.2.2.2.2.2.2.2.1, .int u_3.2.2.2.2.2.2.2.2.2.1, .ref dh5, .int u_3.2.2.2.2.2.2.2.2.2.2.2.1, .ref dh6, .ref dh7, .int u_3.2.2.2.2.2.2.2.2.2.2.2.2.2.2.1, .int u_3.2.2.2.2.2.2.2.2.2.2.2.2.2.2.2.1, .int u_3.2.2.2.2.2.2.2.2.2.2.2.2.2.2.2.2]))], [cArr G dh2 249 u_3.2.1], [cArr G dh3 249 u_3.2.2.1], [cArr G dh5 40 u_3.2.2.2.2.2.2.2.2.2.2.1], [cArr G dh6 60 u_3.2.2.2.2.2.2.2.2.2.2.2.2.1], [cArr G dh7 93 u_3.2.2.2.2.2.2.2.2.2.2.2.2.2.1]]) := hD
      refine W.eq (g2 := F0 m 52 ls []) rfl ?_
      have hF : f_X10_undo d = ((u_3.2.2.2.2.1 - (1 : Int32)), (mo4 (mo0 u_3 u_7) (u_3.2.2.2.2.1 - (1 : Int32)))) := by subst eu_7; exact hF
      refine lv_aload_n hx hb dX10_undo_52 rfl (lv_at hl 0 rfl) ?_
      refine va_get (D := G.1) (ci := 12) (v := .int (u_3.2.2.2.2.1 - (1 : Int32))) (C := RX10) (T := TX10) (N := 17) hx hb hts uws_X10 hown hK hP 2 rfl rfl 4 (by decide) (hts _ u_1684) (fun _ h9 => h9) rfl dX10_undo_53 ?_
      have hP := fl_sub (cs := [[(dh0, .inr (12, [.ref dh1, .ref dh2, .ref dh3, .ref dh4, .int (u_3.2.2.2.2.1 - (1 : Int32)), .int u_3.2.2.2.2.2.1, .int u_3.2.2.2.2.2.2.1, .int u_3.2.2.2.2.2.2.2.1, .int u_3.2.2.2.2.2.2.2.2.1, .int u_3.2.2.2.2.2.2.2.2.2.1, .ref dh5, .int u_3.2.2.2.2.2.2.2.2.2.2.2.1, .ref dh6, .ref dh7, .int u_3.2.2.2.2.2.2.2.2.2.2.2.2.2.2.1, .int u_3.2.2.2.2.2.2.2.2.2.2.2.2.2.2.2.1, .int u_3.2.2.2.2.2.2.2.2.2.2.2.2.2.2.2.2]))], [cArr G dh1 249 u_7], [cArr G dh2 249 u_3.2.1], [cArr G dh3 249 u_3.2.2.1], [cArr G dh4 1992 u_3.2.2.2.1], [cArr G dh5 40 u_3.2.2.2.2.2.2.2.2.2.2.1], [cArr G dh6 60 u_3.2.2.2.2.2.2.2.2.2.2.2.2.1], [cArr G dh7 93 u_3.2.2.2.2.2.2.2.2.2.2.2.2.2.1]]) [2, 1, 3, 4, 0, 5, 6, 7] rfl hP
      have hD := fl_subD (cs := [[(dh0, .inr (12, [.ref dh1, .ref dh2, .ref dh3, .ref dh4, .int (u_3.2.2.2.2.1 - (1 : Int32)), .int u_3.2.2.2.2.2.1, .int u_3.2.2.2.2.2.2.1, .int u_3.2.2.2.2.2.2.2.1, .int u_3.2.2.2.2.2.2.2.2.1, .int u_3.2.2.2.2.2.2.2.2.2.1, .ref dh5, .int u_3.2.2.2.2.2.2.2.2.2.2.2.1, .ref dh6, .ref dh7, .int u_3.2.2.2.2.2.2.2.2.2.2.2.2.2.2.1, .int u_3.2.2.2.2.2.2.2.2.2.2.2.2.2.2.2.1, .int u_3.2.2.2.2.2.2.2.2.2.2.2.2.2.2.2.2]))], [cArr G dh1 249 u_7], [cArr G dh2 249 u_3.2.1], [cArr G dh3 249 u_3.2.2.1], [cArr G dh4 1992 u_3.2.2.2.1], [cArr G dh5 40 u_3.2.2.2.2.2.2.2.2.2.2.1], [cArr G dh6 60 u_3.2.2.2.2.2.2.2.2.2.2.2.2.1], [cArr G dh7 93 u_3.2.2.2.2.2.2.2.2.2.2.2.2.2.1]]) [2, 1, 3, 4, 0, 5, 6, 7] rfl rfl hD
      exact w_ret (u := ((u_3.2.2.2.2.1 - (1 : Int32)), (mo4 (mo0 u_3 u_7) (u_3.2.2.2.2.1 - (1 : Int32))))) hx hb hr hlk rfl hS rfl hF.symm hP hD (Nat.le_of_ble_eq_true rfl) (Nat.le_of_ble_eq_true rfl) dX10_undo_56
    · exact absurd c_4 (by decide)
  · have hF := hF.trans (if_pos c_1)
    have hok := Eq.mp (if_pos c_1) hok
    refine lv_iconst (v := (1 : Int32)) hx hb dX10_undo_8 (by decide) ?_
    refine lv_goto (tgt := 13) hx hb dX10_undo_9 (by decide) ?_
    refine lv_iconst (v := (1 : Int32)) hx hb dX10_undo_13 (by decide) ?_
    refine w_V (own := RX10) (cs := [wMo G dh0 dh1 dh2 dh3 dh4 dh5 dh6 dh7 d]) (rs := []) (As := [.int (1 : Int32), .int (1 : Int32)]) (rest := []) (c_X10_isThrown l G dh0 dh1 dh2 dh3 dh4 dh5 dh6 dh7 s.heap.size d (1 : Int32) (1 : Int32) (rfl)) ⟨hx, hb, hml, hown, hts⟩ g_X10_63 hdv_X10_isThrown hK hST hS hP hD hA [0] [] rfl rfl rfl (k0 := 0) rfl rfl rfl ⟨Nat.le_of_ble_eq_true rfl, Nat.le_of_ble_eq_true rfl⟩ ⟨Nat.le_of_ble_eq_true rfl, Nat.le_of_ble_eq_true rfl⟩ rfl hl.1 rfl (Nat.le_of_ble_eq_true rfl) dX10_undo_14 (fun u_9 H locs huu hP hD hS => ?_)
    have eu_9 := huu
    have hP : va_P G.1 vwCl (fl [wMo G dh0 dh1 dh2 dh3 dh4 dh5 dh6 dh7 u_9]) H := hP
    have hD : va_D A (fl [wMo G dh0 dh1 dh2 dh3 dh4 dh5 dh6 dh7 u_9]) := hD
    refine W.eq (g2 := F0 m 17 ls [.int (1 : Int32)]) rfl ?_
    have hF : f_X10_undo d = ((0 : Int32), u_9) := by subst eu_9; exact hF
    refine lv_if_eq (tgt := 22) hx hb dX10_undo_17 (by decide) (fun c_10 => ?_) (fun c_10 => ?_)
    · exact absurd c_10 (by decide)
    · refine lv_iconst (v := (0 : Int32)) hx hb dX10_undo_20 (by decide) ?_
      exact w_ret (u := ((0 : Int32), u_9)) hx hb hr hlk rfl hS rfl hF.symm hP hD (Nat.le_of_ble_eq_true rfl) (Nat.le_of_ble_eq_true rfl) dX10_undo_21
theorem dX10_save_0 : decode cX10_save 0 = .ok (.aload_n 0, 1) := by decide +kernel
theorem dX10_save_1 : decode cX10_save 1 = .ok (.iconst 0, 1) := by decide +kernel
theorem dX10_save_2 : decode cX10_save 2 = .ok (.putfield 38, 3) := by decide +kernel
theorem dX10_save_5 : decode cX10_save 5 = .ok (.aload_n 0, 1) := by decide +kernel
theorem dX10_save_6 : decode cX10_save 6 = .ok (.getfield 9, 3) := by decide +kernel
theorem dX10_save_9 : decode cX10_save 9 = .ok (.iconst 0, 1) := by decide +kernel
theorem dX10_save_10 : decode cX10_save 10 = .ok (.aload_n 0, 1) := by decide +kernel
theorem dX10_save_11 : decode cX10_save 11 = .ok (.getfield 16, 3) := by decide +kernel
theorem u_1682 : Cond.fieldLink RX10 16 "MoonlitDoorsModel" "saved" "[I" ∈ UW := uw 1682 (by decide +kernel) rfl
theorem dX10_save_14 : decode cX10_save 14 = .ok (.iconst 0, 1) := by decide +kernel
theorem dX10_save_15 : decode cX10_save 15 = .ok (.invokestatic 41, 3) := by decide +kernel
theorem dX10_save_18 : decode cX10_save 18 = .ok (.aload_n 0, 1) := by decide +kernel
theorem dX10_save_19 : decode cX10_save 19 = .ok (.iconst 1, 1) := by decide +kernel
theorem dX10_save_20 : decode cX10_save 20 = .ok (.putfield 251, 3) := by decide +kernel
theorem u_1689 : Cond.fieldLink RX10 251 "MoonlitDoorsModel" "isSaved" "Z" ∈ UW := uw 1689 (by decide +kernel) rfl
theorem dX10_save_23 : decode cX10_save 23 = .ok (.aload_n 0, 1) := by decide +kernel
theorem dX10_save_24 : decode cX10_save 24 = .ok (.invokevirtual 163, 3) := by decide +kernel
theorem u_2040 : Cond.methodLink RX10 163 yX10_attempts ∈ UW := uw 2040 (by decide +kernel) rfl
theorem u_2042 : Cond.instanceMethod yX10_attempts ∈ UW := uw 2042 (by decide +kernel) rfl
theorem u_50 : Cond.selects RX10 yX10_attempts yX10_attempts ∈ UW := uw 50 (by decide +kernel) rfl
theorem u_2043 : Cond.code yX10_attempts cX10_attempts 3 (some .int) ∈ UW := uw 2043 (by decide +kernel) rfl
theorem g_X10_163 : GoodIn UW (wsV RX10 163 RX10 yX10_attempts (wsU yX10_attempts cX10_attempts 3 (some .int))) := gV u_2040 u_2042 u_50 u_77 u_2043
theorem hdv_X10_attempts : yX10_attempts.cls = RX10 ∧ yX10_attempts.cls ≠ "java/lang/invoke/MethodHandle" ∧ yX10_attempts.cls ≠ "java/lang/invoke/VarHandle" ∧ (parseMethodDescriptor yX10_attempts.desc).map (fun d => d.parameters.length) = some 0 := by decide +kernel
theorem dX10_save_27 : decode cX10_save 27 = .ok (.ireturn, 1) := by decide +kernel
def f_X10_save (d : MoV) : Int32 × MoV := (let u_3 : (Nat → Int32) := (f_X10_copies 249 d.1 (0 : Int32) 249 d.2.2.1 (0 : Int32)); ((f_X10_attempts (mo9 (mo5 (mo2 d u_3) (0 : Int32)) (1 : Int32))), (mo9 (mo5 (mo2 d u_3) (0 : Int32)) (1 : Int32))))
def ok_X10_save (d : MoV) : Prop := (ok_X10_copies 249 d.1 (0 : Int32) 249 d.2.2.1 (0 : Int32) ∧ (let u_3 : (Nat → Int32) := (f_X10_copies 249 d.1 (0 : Int32) 249 d.2.2.1 (0 : Int32)); (ok_X10_attempts (mo9 (mo5 (mo2 d u_3) (0 : Int32)) (1 : Int32)) ∧ True)))
set_option maxHeartbeats 4000000 in
set_option maxRecDepth 100000 in
theorem c_X10_save (l : Launch) (G : GG) (dh0 : Nat) (dh1 : Nat) (dh2 : Nat) (dh3 : Nat) (dh4 : Nat) (dh5 : Nat) (dh6 : Nat) (dh7 : Nat) (sz : Nat) (d : MoV) (hok : ok_X10_save d) : wMet l yX10_save cX10_save 1 (some .int) 2 0 0 G (fl [wMo G dh0 dh1 dh2 dh3 dh4 dh5 dh6 dh7 d]) [.ref dh0] sz (fun u : Int32 × MoV => some (.int u.1)) (fun u : Int32 × MoV => u = f_X10_save d) (fun u : Int32 × MoV => fl [wMo G dh0 dh1 dh2 dh3 dh4 dh5 dh6 dh7 u.2]) := by
  refine w_start (by decide +kernel) (Nat.le_of_ble_eq_true rfl) ?_
  intro p e s m below meth c A hx hb hr hml hts hown hlk hin hP hD hA hK hST ls hl
  have hS : va_S A s.heap s.heap [] := va_S.rf
  have hown : s.vm.findClass RX10 = some m.cls := hown
  have hl : lv_has ls 1 [(0, .ref dh0)] := hl
  have hF : f_X10_save d = (let u_3 : (Nat → Int32) := (f_X10_copies 249 d.1 (0 : Int32) 249 d.2.2.1 (0 : Int32)); ((f_X10_attempts (mo9 (mo5 (mo2 d u_3) (0 : Int32)) (1 : Int32))), (mo9 (mo5 (mo2 d u_3) (0 : Int32)) (1 : Int32)))) := rfl
  have hok : (ok_X10_copies 249 d.1 (0 : Int32) 249 d.2.2.1 (0 : Int32) ∧ (let u_3 : (Nat → Int32) := (f_X10_copies 249 d.1 (0 : Int32) 249 d.2.2.1 (0 : Int32)); (ok_X10_attempts (mo9 (mo5 (mo2 d u_3) (0 : Int32)) (1 : Int32)) ∧ True))) := hok
  refine lv_aload_n hx hb dX10_save_0 rfl (lv_at hl 0 rfl) ?_
  refine lv_iconst (v := (0 : Int32)) hx hb dX10_save_1 (by decide) ?_
  refine va_put (D := G.1) (ci := 12) (v := .int (0 : Int32)) (ty := .int) (C := RX10) (T := TX10) (N := 17) hx hb hts uws_X10 tyX10 tyX10_ok nmX10 hown hK hP hD hS 0 rfl rfl 5 (by decide) (hts _ u_1685) (fun _ h9 => h9) rfl (by decide +kernel) rfl rfl (Nat.le_of_ble_eq_true rfl) dX10_save_2 (fun H locs hP hD hS => ?_)
  have hP : va_P G.1 vwCl (fl [wMo G dh0 dh1 dh2 dh3 dh4 dh5 dh6 dh7 (mo5 d (0 : Int32))]) H := hP
  have hD : va_D A (fl [wMo G dh0 dh1 dh2 dh3 dh4 dh5 dh6 dh7 (mo5 d (0 : Int32))]) := hD
  refine lv_aload_n hx hb dX10_save_5 rfl (lv_at hl 0 rfl) ?_
  refine va_get (D := G.1) (ci := 12) (v := .ref dh1) (C := RX10) (T := TX10) (N := 17) hx hb hts uws_X10 hown hK hP 0 rfl rfl 0 (by decide) (hts _ u_1680) (fun _ h9 => h9) rfl dX10_save_6 ?_
  refine lv_iconst (v := (0 : Int32)) hx hb dX10_save_9 (by decide) ?_
  refine lv_aload_n hx hb dX10_save_10 rfl (lv_at hl 0 rfl) ?_
  refine va_get (D := G.1) (ci := 12) (v := .ref dh3) (C := RX10) (T := TX10) (N := 17) hx hb hts uws_X10 hown hK hP 0 rfl rfl 2 (by decide) (hts _ u_1682) (fun _ h9 => h9) rfl dX10_save_11 ?_
  refine lv_iconst (v := (0 : Int32)) hx hb dX10_save_14 (by decide) ?_
  have k_1 := hok.1
  have hok := hok.2
  have hP : va_P G.1 vwCl (fl [[(dh0, .inr (12, [.ref dh1, .ref dh2, .ref dh3, .ref dh4, .int d.2.2.2.2.1, .int (0 : Int32), .int d.2.2.2.2.2.2.1, .int d.2.2.2.2.2.2.2.1, .int d.2.2.2.2.2.2.2.2.1, .int d.2.2.2.2.2.2.2.2.2.1, .ref dh5, .int d.2.2.2.2.2.2.2.2.2.2.2.1, .ref dh6, .ref dh7, .int d.2.2.2.2.2.2.2.2.2.2.2.2.2.2.1, .int d.2.2.2.2.2.2.2.2.2.2.2.2.2.2.2.1, .int d.2.2.2.2.2.2.2.2.2.2.2.2.2.2.2.2]))], [cArr G dh1 249 d.1], [cArr G dh2 249 d.2.1], [cArr G dh3 249 d.2.2.1], [cArr G dh4 1992 d.2.2.2.1], [cArr G dh5 40 d.2.2.2.2.2.2.2.2.2.2.1], [cArr G dh6 60 d.2.2.2.2.2.2.2.2.2.2.2.2.1], [cArr G dh7 93 d.2.2.2.2.2.2.2.2.2.2.2.2.2.1]]) H := hP
  have hD : va_D A (fl [[(dh0, .inr (12, [.ref dh1, .ref dh2, .ref dh3, .ref dh4, .int d.2.2.2.2.1, .int (0 : Int32), .int d.2.2.2.2.2.2.1, .int d.2.2.2.2.2.2.2.1, .int d.2.2.2.2.2.2.2.2.1, .int d.2.2.2.2.2.2.2.2.2.1, .ref dh5, .int d.2.2.2.2.2.2.2.2.2.2.2.1, .ref dh6, .ref dh7, .int d.2.2.2.2.2.2.2.2.2.2.2.2.2.2.1, .int d.2.2.2.2.2.2.2.2.2.2.2.2.2.2.2.1, .int d.2.2.2.2.2.2.2.2.2.2.2.2.2.2.2.2]))], [cArr G dh1 249 d.1], [cArr G dh2 249 d.2.1], [cArr G dh3 249 d.2.2.1], [cArr G dh4 1992 d.2.2.2.1], [cArr G dh5 40 d.2.2.2.2.2.2.2.2.2.2.1], [cArr G dh6 60 d.2.2.2.2.2.2.2.2.2.2.2.2.1], [cArr G dh7 93 d.2.2.2.2.2.2.2.2.2.2.2.2.2.1]]) := hD
  refine w_S (own := RX10) (cs := [[cArr G dh1 249 d.1], [cArr G dh3 249 d.2.2.1]]) (rs := [[(dh0, .inr (12, [.ref dh1, .ref dh2, .ref dh3, .ref dh4, .int d.2.2.2.2.1, .int (0 : Int32), .int d.2.2.2.2.2.2.1, .int d.2.2.2.2.2.2.2.1, .int d.2.2.2.2.2.2.2.2.1, .int d.2.2.2.2.2.2.2.2.2.1, .ref dh5, .int d.2.2.2.2.2.2.2.2.2.2.2.1, .ref dh6, .ref dh7, .int d.2.2.2.2.2.2.2.2.2.2.2.2.2.2.1, .int d.2.2.2.2.2.2.2.2.2.2.2.2.2.2.2.1, .int d.2.2.2.2.2.2.2.2.2.2.2.2.2.2.2.2]))], [cArr G dh2 249 d.2.1], [cArr G dh4 1992 d.2.2.2.1], [cArr G dh5 40 d.2.2.2.2.2.2.2.2.2.2.1], [cArr G dh6 60 d.2.2.2.2.2.2.2.2.2.2.2.2.1], [cArr G dh7 93 d.2.2.2.2.2.2.2.2.2.2.2.2.2.1]]) (As := [.ref dh1, .int (0 : Int32), .ref dh3, .int (0 : Int32)]) (rest := []) (c_X10_copies l G dh1 dh3 H.size 249 d.1 (0 : Int32) 249 d.2.2.1 (0 : Int32) k_1) ⟨hx, hb, hml, hown, hts⟩ g_X10_41 hds_X10_copies hK hST hS hP hD hA [1, 3] [0, 2, 4, 5, 6, 7] rfl rfl rfl ⟨Nat.le_of_ble_eq_true rfl, Nat.le_of_ble_eq_true rfl⟩ ⟨Nat.le_of_ble_eq_true rfl, Nat.le_of_ble_eq_true rfl⟩ rfl hl.1 rfl (Nat.le_of_ble_eq_true rfl) dX10_save_15 (fun u_3 H locs huu hP hD hS => ?_)
  have eu_3 := huu
  have hP : va_P G.1 vwCl (fl [[cArr G dh1 249 d.1], [cArr G dh3 249 u_3], [(dh0, .inr (12, [.ref dh1, .ref dh2, .ref dh3, .ref dh4, .int d.2.2.2.2.1, .int (0 : Int32), .int d.2.2.2.2.2.2.1, .int d.2.2.2.2.2.2.2.1, .int d.2.2.2.2.2.2.2.2.1, .int d.2.2.2.2.2.2.2.2.2.1, .ref dh5, .int d.2.2.2.2.2.2.2.2.2.2.2.1, .ref dh6, .ref dh7, .int d.2.2.2.2.2.2.2.2.2.2.2.2.2.2.1, .int d.2.2.2.2.2.2.2.2.2.2.2.2.2.2.2.1, .int d.2.2.2.2.2.2.2.2.2.2.2.2.2.2.2.2]))], [cArr G dh2 249 d.2.1], [cArr G dh4 1992 d.2.2.2.1], [cArr G dh5 40 d.2.2.2.2.2.2.2.2.2.2.1], [cArr G dh6 60 d.2.2.2.2.2.2.2.2.2.2.2.2.1], [cArr G dh7 93 d.2.2.2.2.2.2.2.2.2.2.2.2.2.1]]) H := hP
  have hD : va_D A (fl [[cArr G dh1 249 d.1], [cArr G dh3 249 u_3], [(dh0, .inr (12, [.ref dh1, .ref dh2, .ref dh3, .ref dh4, .int d.2.2.2.2.1, .int (0 : Int32), .int d.2.2.2.2.2.2.1, .int d.2.2.2.2.2.2.2.1, .int d.2.2.2.2.2.2.2.2.1, .int d.2.2.2.2.2.2.2.2.2.1, .ref dh5, .int d.2.2.2.2.2.2.2.2.2.2.2.1, .ref dh6, .ref dh7, .int d.2.2.2.2.2.2.2.2.2.2.2.2.2.2.1, .int d.2.2.2.2.2.2.2.2.2.2.2.2.2.2.2.1, .int d.2.2.2.2.2.2.2.2.2.2.2.2.2.2.2.2]))], [cArr G dh2 249 d.2.1], [cArr G dh4 1992 d.2.2.2.1], [cArr G dh5 40 d.2.2.2.2.2.2.2.2.2.2.1], [cArr G dh6 60 d.2.2.2.2.2.2.2.2.2.2.2.2.1], [cArr G dh7 93 d.2.2.2.2.2.2.2.2.2.2.2.2.2.1]]) := hD
  refine W.eq (g2 := F0 m 18 ls []) rfl ?_
  have hF : f_X10_save d = ((f_X10_attempts (mo9 (mo5 (mo2 d u_3) (0 : Int32)) (1 : Int32))), (mo9 (mo5 (mo2 d u_3) (0 : Int32)) (1 : Int32))) := by subst eu_3; exact hF
  have hok : (ok_X10_attempts (mo9 (mo5 (mo2 d u_3) (0 : Int32)) (1 : Int32)) ∧ True) := by subst eu_3; exact hok
  refine lv_aload_n hx hb dX10_save_18 rfl (lv_at hl 0 rfl) ?_
  refine lv_iconst (v := (1 : Int32)) hx hb dX10_save_19 (by decide) ?_
  refine va_put (D := G.1) (ci := 12) (v := .int (1 : Int32)) (ty := .boolean) (C := RX10) (T := TX10) (N := 17) hx hb hts uws_X10 tyX10 tyX10_ok nmX10 hown hK hP hD hS 2 rfl rfl 9 (by decide) (hts _ u_1689) (fun _ h9 => h9) rfl (by decide +kernel) rfl rfl (Nat.le_of_ble_eq_true rfl) dX10_save_20 (fun H locs hP hD hS => ?_)
  have hP : va_P G.1 vwCl (fl [[cArr G dh1 249 d.1], [cArr G dh3 249 u_3], [(dh0, .inr (12, [.ref dh1, .ref dh2, .ref dh3, .ref dh4, .int d.2.2.2.2.1, .int (0 : Int32), .int d.2.2.2.2.2.2.1, .int d.2.2.2.2.2.2.2.1, .int d.2.2.2.2.2.2.2.2.1, .int (1 : Int32), .ref dh5, .int d.2.2.2.2.2.2.2.2.2.2.2.1, .ref dh6, .ref dh7, .int d.2.2.2.2.2.2.2.2.2.2.2.2.2.2.1, .int d.2.2.2.2.2.2.2.2.2.2.2.2.2.2.2.1, .int d.2.2.2.2.2.2.2.2.2.2.2.2.2.2.2.2]))], [cArr G dh2 249 d.2.1], [cArr G dh4 1992 d.2.2.2.1], [cArr G dh5 40 d.2.2.2.2.2.2.2.2.2.2.1], [cArr G dh6 60 d.2.2.2.2.2.2.2.2.2.2.2.2.1], [cArr G dh7 93 d.2.2.2.2.2.2.2.2.2.2.2.2.2.1]]) H := hP
  have hD : va_D A (fl [[cArr G dh1 249 d.1], [cArr G dh3 249 u_3], [(dh0, .inr (12, [.ref dh1, .ref dh2, .ref dh3, .ref dh4, .int d.2.2.2.2.1, .int (0 : Int32), .int d.2.2.2.2.2.2.1, .int d.2.2.2.2.2.2.2.1, .int d.2.2.2.2.2.2.2.2.1, .int (1 : Int32), .ref dh5, .int d.2.2.2.2.2.2.2.2.2.2.2.1, .ref dh6, .ref dh7, .int d.2.2.2.2.2.2.2.2.2.2.2.2.2.2.1, .int d.2.2.2.2.2.2.2.2.2.2.2.2.2.2.2.1, .int d.2.2.2.2.2.2.2.2.2.2.2.2.2.2.2.2]))], [cArr G dh2 249 d.2.1], [cArr G dh4 1992 d.2.2.2.1], [cArr G dh5 40 d.2.2.2.2.2.2.2.2.2.2.1], [cArr G dh6 60 d.2.2.2.2.2.2.2.2.2.2.2.2.1], [cArr G dh7 93 d.2.2.2.2.2.2.2.2.2.2.2.2.2.1]]) := hD
  refine lv_aload_n hx hb dX10_save_23 rfl (lv_at hl 0 rfl) ?_
  have k_4 := hok.1
  have hok := hok.2
  refine r_V (own := RX10) (v := (some (.int (f_X10_attempts (mo9 (mo5 (mo2 d u_3) (0 : Int32)) (1 : Int32)))))) (st1 := [.int (f_X10_attempts (mo9 (mo5 (mo2 d u_3) (0 : Int32)) (1 : Int32)))]) (As := []) (rest := []) (c_X10_attempts l G dh0 dh1 dh2 dh3 dh4 dh5 dh6 dh7 (mo9 (mo5 (mo2 d u_3) (0 : Int32)) (1 : Int32)) k_4) ⟨hx, hb, hml, hown, hts⟩ g_X10_163 hdv_X10_attempts hK hST hS hP [2, 0, 3, 1, 4, 5, 6, 7] rfl (k0 := 0) rfl rfl rfl ⟨Nat.le_of_ble_eq_true rfl, Nat.le_of_ble_eq_true rfl⟩ ⟨Nat.le_of_ble_eq_true rfl, Nat.le_of_ble_eq_true rfl⟩ rfl hl.1 rfl (Nat.le_of_ble_eq_true rfl) dX10_save_24 rfl (fun b_5 => ?_)
  have hP := fl_sub (cs := [[(dh0, .inr (12, [.ref dh1, .ref dh2, .ref dh3, .ref dh4, .int d.2.2.2.2.1, .int (0 : Int32), .int d.2.2.2.2.2.2.1, .int d.2.2.2.2.2.2.2.1, .int d.2.2.2.2.2.2.2.2.1, .int (1 : Int32), .ref dh5, .int d.2.2.2.2.2.2.2.2.2.2.2.1, .ref dh6, .ref dh7, .int d.2.2.2.2.2.2.2.2.2.2.2.2.2.2.1, .int d.2.2.2.2.2.2.2.2.2.2.2.2.2.2.2.1, .int d.2.2.2.2.2.2.2.2.2.2.2.2.2.2.2.2]))], [cArr G dh1 249 d.1], [cArr G dh2 249 d.2.1], [cArr G dh3 249 u_3], [cArr G dh4 1992 d.2.2.2.1], [cArr G dh5 40 d.2.2.2.2.2.2.2.2.2.2.1], [cArr G dh6 60 d.2.2.2.2.2.2.2.2.2.2.2.2.1], [cArr G dh7 93 d.2.2.2.2.2.2.2.2.2.2.2.2.2.1]]) [2, 0, 3, 1, 4, 5, 6, 7] rfl hP
  have hD := fl_subD (cs := [[(dh0, .inr (12, [.ref dh1, .ref dh2, .ref dh3, .ref dh4, .int d.2.2.2.2.1, .int (0 : Int32), .int d.2.2.2.2.2.2.1, .int d.2.2.2.2.2.2.2.1, .int d.2.2.2.2.2.2.2.2.1, .int (1 : Int32), .ref dh5, .int d.2.2.2.2.2.2.2.2.2.2.2.1, .ref dh6, .ref dh7, .int d.2.2.2.2.2.2.2.2.2.2.2.2.2.2.1, .int d.2.2.2.2.2.2.2.2.2.2.2.2.2.2.2.1, .int d.2.2.2.2.2.2.2.2.2.2.2.2.2.2.2.2]))], [cArr G dh1 249 d.1], [cArr G dh2 249 d.2.1], [cArr G dh3 249 u_3], [cArr G dh4 1992 d.2.2.2.1], [cArr G dh5 40 d.2.2.2.2.2.2.2.2.2.2.1], [cArr G dh6 60 d.2.2.2.2.2.2.2.2.2.2.2.2.1], [cArr G dh7 93 d.2.2.2.2.2.2.2.2.2.2.2.2.2.1]]) [2, 0, 3, 1, 4, 5, 6, 7] rfl rfl hD
  exact w_ret (u := ((f_X10_attempts (mo9 (mo5 (mo2 d u_3) (0 : Int32)) (1 : Int32))), (mo9 (mo5 (mo2 d u_3) (0 : Int32)) (1 : Int32)))) hx hb hr hlk rfl hS rfl hF.symm hP hD (Nat.le_of_ble_eq_true rfl) (Nat.le_of_ble_eq_true rfl) dX10_save_27
theorem dX10_restore_0 : decode cX10_restore 0 = .ok (.aload_n 0, 1) := by decide +kernel
theorem dX10_restore_1 : decode cX10_restore 1 = .ok (.aload_n 0, 1) := by decide +kernel
theorem dX10_restore_2 : decode cX10_restore 2 = .ok (.getfield 251, 3) := by decide +kernel
theorem dX10_restore_5 : decode cX10_restore 5 = .ok (.ifCond .ne 7, 3) := by decide +kernel
theorem dX10_restore_12 : decode cX10_restore 12 = .ok (.iconst 0, 1) := by decide +kernel
theorem dX10_restore_13 : decode cX10_restore 13 = .ok (.iconst 1, 1) := by decide +kernel
theorem dX10_restore_14 : decode cX10_restore 14 = .ok (.invokevirtual 63, 3) := by decide +kernel
theorem dX10_restore_17 : decode cX10_restore 17 = .ok (.ifCond .eq 5, 3) := by decide +kernel
theorem dX10_restore_22 : decode cX10_restore 22 = .ok (.aload_n 0, 1) := by decide +kernel
theorem dX10_restore_23 : decode cX10_restore 23 = .ok (.getfield 16, 3) := by decide +kernel
theorem dX10_restore_26 : decode cX10_restore 26 = .ok (.iconst 0, 1) := by decide +kernel
theorem dX10_restore_27 : decode cX10_restore 27 = .ok (.aload_n 0, 1) := by decide +kernel
theorem dX10_restore_28 : decode cX10_restore 28 = .ok (.getfield 9, 3) := by decide +kernel
theorem dX10_restore_31 : decode cX10_restore 31 = .ok (.iconst 0, 1) := by decide +kernel
theorem dX10_restore_32 : decode cX10_restore 32 = .ok (.invokestatic 41, 3) := by decide +kernel
theorem dX10_restore_35 : decode cX10_restore 35 = .ok (.aload_n 0, 1) := by decide +kernel
theorem dX10_restore_36 : decode cX10_restore 36 = .ok (.iconst 0, 1) := by decide +kernel
theorem dX10_restore_37 : decode cX10_restore 37 = .ok (.putfield 45, 3) := by decide +kernel
theorem dX10_restore_40 : decode cX10_restore 40 = .ok (.aload_n 0, 1) := by decide +kernel
theorem dX10_restore_41 : decode cX10_restore 41 = .ok (.invokevirtual 163, 3) := by decide +kernel
theorem dX10_restore_44 : decode cX10_restore 44 = .ok (.ireturn, 1) := by decide +kernel
theorem dX10_restore_8 : decode cX10_restore 8 = .ok (.iconst 1, 1) := by decide +kernel
theorem dX10_restore_9 : decode cX10_restore 9 = .ok (.goto 4, 3) := by decide +kernel
theorem dX10_restore_20 : decode cX10_restore 20 = .ok (.iconst 0, 1) := by decide +kernel
theorem dX10_restore_21 : decode cX10_restore 21 = .ok (.ireturn, 1) := by decide +kernel
def f_X10_restore (d : MoV) : Int32 × MoV := (if d.2.2.2.2.2.2.2.2.2.1 = (0 : Int32) then (let u_11 : MoV := (f_X10_isThrown d (1 : Int32) (1 : Int32)); ((0 : Int32), u_11)) else (let u_3 : MoV := (f_X10_isThrown d (0 : Int32) (1 : Int32)); (let u_7 : (Nat → Int32) := (f_X10_copies 249 u_3.2.2.1 (0 : Int32) 249 u_3.1 (0 : Int32)); ((f_X10_attempts (mo4 (mo0 u_3 u_7) (0 : Int32))), (mo4 (mo0 u_3 u_7) (0 : Int32))))))
def ok_X10_restore (d : MoV) : Prop := (if d.2.2.2.2.2.2.2.2.2.1 = (0 : Int32) then True else (let u_3 : MoV := (f_X10_isThrown d (0 : Int32) (1 : Int32)); (ok_X10_copies 249 u_3.2.2.1 (0 : Int32) 249 u_3.1 (0 : Int32) ∧ (let u_7 : (Nat → Int32) := (f_X10_copies 249 u_3.2.2.1 (0 : Int32) 249 u_3.1 (0 : Int32)); (ok_X10_attempts (mo4 (mo0 u_3 u_7) (0 : Int32)) ∧ True)))))
set_option maxHeartbeats 4000000 in
set_option maxRecDepth 100000 in
theorem c_X10_restore (l : Launch) (G : GG) (dh0 : Nat) (dh1 : Nat) (dh2 : Nat) (dh3 : Nat) (dh4 : Nat) (dh5 : Nat) (dh6 : Nat) (dh7 : Nat) (sz : Nat) (d : MoV) (hok : ok_X10_restore d) : wMet l yX10_restore cX10_restore 1 (some .int) 2 0 0 G (fl [wMo G dh0 dh1 dh2 dh3 dh4 dh5 dh6 dh7 d]) [.ref dh0] sz (fun u : Int32 × MoV => some (.int u.1)) (fun u : Int32 × MoV => u = f_X10_restore d) (fun u : Int32 × MoV => fl [wMo G dh0 dh1 dh2 dh3 dh4 dh5 dh6 dh7 u.2]) := by
  refine w_start (by decide +kernel) (Nat.le_of_ble_eq_true rfl) ?_
  intro p e s m below meth c A hx hb hr hml hts hown hlk hin hP hD hA hK hST ls hl
  have hS : va_S A s.heap s.heap [] := va_S.rf
  have hown : s.vm.findClass RX10 = some m.cls := hown
  have hl : lv_has ls 1 [(0, .ref dh0)] := hl
  have hF : f_X10_restore d = (if d.2.2.2.2.2.2.2.2.2.1 = (0 : Int32) then (let u_11 : MoV := (f_X10_isThrown d (1 : Int32) (1 : Int32)); ((0 : Int32), u_11)) else (let u_3 : MoV := (f_X10_isThrown d (0 : Int32) (1 : Int32)); (let u_7 : (Nat → Int32) := (f_X10_copies 249 u_3.2.2.1 (0 : Int32) 249 u_3.1 (0 : Int32)); ((f_X10_attempts (mo4 (mo0 u_3 u_7) (0 : Int32))), (mo4 (mo0 u_3 u_7) (0 : Int32)))))) := rfl
  have hok : (if d.2.2.2.2.2.2.2.2.2.1 = (0 : Int32) then True else (let u_3 : MoV := (f_X10_isThrown d (0 : Int32) (1 : Int32)); (ok_X10_copies 249 u_3.2.2.1 (0 : Int32) 249 u_3.1 (0 : Int32) ∧ (let u_7 : (Nat → Int32) := (f_X10_copies 249 u_3.2.2.1 (0 : Int32) 249 u_3.1 (0 : Int32)); (ok_X10_attempts (mo4 (mo0 u_3 u_7) (0 : Int32)) ∧ True))))) := hok
  refine lv_aload_n hx hb dX10_restore_0 rfl (lv_at hl 0 rfl) ?_
  refine lv_aload_n hx hb dX10_restore_1 rfl (lv_at hl 0 rfl) ?_
  refine va_get (D := G.1) (ci := 12) (v := .int d.2.2.2.2.2.2.2.2.2.1) (C := RX10) (T := TX10) (N := 17) hx hb hts uws_X10 hown hK hP 0 rfl rfl 9 (by decide) (hts _ u_1689) (fun _ h9 => h9) rfl dX10_restore_2 ?_
  refine lv_if_ne (tgt := 12) hx hb dX10_restore_5 (by decide) (fun c_1 => ?_) (fun c_1 => ?_)
  · have hF := hF.trans (if_neg c_1)
    have hok := Eq.mp (if_neg c_1) hok
    refine lv_iconst (v := (0 : Int32)) hx hb dX10_restore_12 (by decide) ?_
    refine lv_iconst (v := (1 : Int32)) hx hb dX10_restore_13 (by decide) ?_
    refine w_V (own := RX10) (cs := [wMo G dh0 dh1 dh2 dh3 dh4 dh5 dh6 dh7 d]) (rs := []) (As := [.int (0 : Int32), .int (1 : Int32)]) (rest := []) (c_X10_isThrown l G dh0 dh1 dh2 dh3 dh4 dh5 dh6 dh7 s.heap.size d (0 : Int32) (1 : Int32) (rfl)) ⟨hx, hb, hml, hown, hts⟩ g_X10_63 hdv_X10_isThrown hK hST hS hP hD hA [0] [] rfl rfl rfl (k0 := 0) rfl rfl rfl ⟨Nat.le_of_ble_eq_true rfl, Nat.le_of_ble_eq_true rfl⟩ ⟨Nat.le_of_ble_eq_true rfl, Nat.le_of_ble_eq_true rfl⟩ rfl hl.1 rfl (Nat.le_of_ble_eq_true rfl) dX10_restore_14 (fun u_3 H locs huu hP hD hS => ?_)
    have eu_3 := huu
    have hP : va_P G.1 vwCl (fl [wMo G dh0 dh1 dh2 dh3 dh4 dh5 dh6 dh7 u_3]) H := hP
    have hD : va_D A (fl [wMo G dh0 dh1 dh2 dh3 dh4 dh5 dh6 dh7 u_3]) := hD
    refine W.eq (g2 := F0 m 17 ls [.int (0 : Int32)]) rfl ?_
    have hF : f_X10_restore d = (let u_7 : (Nat → Int32) := (f_X10_copies 249 u_3.2.2.1 (0 : Int32) 249 u_3.1 (0 : Int32)); ((f_X10_attempts (mo4 (mo0 u_3 u_7) (0 : Int32))), (mo4 (mo0 u_3 u_7) (0 : Int32)))) := by subst eu_3; exact hF
    have hok : (ok_X10_copies 249 u_3.2.2.1 (0 : Int32) 249 u_3.1 (0 : Int32) ∧ (let u_7 : (Nat → Int32) := (f_X10_copies 249 u_3.2.2.1 (0 : Int32) 249 u_3.1 (0 : Int32)); (ok_X10_attempts (mo4 (mo0 u_3 u_7) (0 : Int32)) ∧ True))) := by subst eu_3; exact hok
    refine lv_if_eq (tgt := 22) hx hb dX10_restore_17 (by decide) (fun c_4 => ?_) (fun c_4 => ?_)
    · refine lv_aload_n hx hb dX10_restore_22 rfl (lv_at hl 0 rfl) ?_
      refine va_get (D := G.1) (ci := 12) (v := .ref dh3) (C := RX10) (T := TX10) (N := 17) hx hb hts uws_X10 hown hK hP 0 rfl rfl 2 (by decide) (hts _ u_1682) (fun _ h9 => h9) rfl dX10_restore_23 ?_
      refine lv_iconst (v := (0 : Int32)) hx hb dX10_restore_26 (by decide) ?_
      refine lv_aload_n hx hb dX10_restore_27 rfl (lv_at hl 0 rfl) ?_
      refine va_get (D := G.1) (ci := 12) (v := .ref dh1) (C := RX10) (T := TX10) (N := 17) hx hb hts uws_X10 hown hK hP 0 rfl rfl 0 (by decide) (hts _ u_1680) (fun _ h9 => h9) rfl dX10_restore_28 ?_
      refine lv_iconst (v := (0 : Int32)) hx hb dX10_restore_31 (by decide) ?_
      have k_5 := hok.1
      have hok := hok.2
      have hP : va_P G.1 vwCl (fl [[(dh0, .inr (12, [.ref dh1, .ref dh2, .ref dh3, .ref dh4, .int u_3.2.2.2.2.1, .int u_3.2.2.2.2.2.1, .int u_3.2.2.2.2.2.2.1, .int u_3.2.2.2.2.2.2.2.1, .int u_3.2.2.2.2.2.2.2.2.1, .int u_3.2.2.2.2.2.2.2.2.2.1, .ref dh5, .int u_3.2.2.2.2.2.2.2.2.2.2.2.1, .ref dh6, .ref dh7, .int u_3.2.2.2.2.2.2.2.2.2.2.2.2.2.2.1, .int u_3.2.2.2.2.2.2.2.2.2.2.2.2.2.2.2.1, .int u_3.2.2.2.2.2.2.2.2.2.2.2.2.2.2.2.2]))], [cArr G dh1 249 u_3.1], [cArr G dh2 249 u_3.2.1], [cArr G dh3 249 u_3.2.2.1], [cArr G dh4 1992 u_3.2.2.2.1], [cArr G dh5 40 u_3.2.2.2.2.2.2.2.2.2.2.1], [cArr G dh6 60 u_3.2.2.2.2.2.2.2.2.2.2.2.2.1], [cArr G dh7 93 u_3.2.2.2.2.2.2.2.2.2.2.2.2.2.1]]) H := hP
      have hD : va_D A (fl [[(dh0, .inr (12, [.ref dh1, .ref dh2, .ref dh3, .ref dh4, .int u_3.2.2.2.2.1, .int u_3.2.2.2.2.2.1, .int u_3.2.2.2.2.2.2.1, .int u_3.2.2.2.2.2.2.2.1, .int u_3.2.2.2.2.2.2.2.2.1, .int u_3.2.2.2.2.2.2.2.2.2.1, .ref dh5, .int u_3.2.2.2.2.2.2.2.2.2.2.2.1, .ref dh6, .ref dh7, .int u_3.2.2.2.2.2.2.2.2.2.2.2.2.2.2.1, .int u_3.2.2.2.2.2.2.2.2.2.2.2.2.2.2.2.1, .int u_3.2.2.2.2.2.2.2.2.2.2.2.2.2.2.2.2]))], [cArr G dh1 249 u_3.1], [cArr G dh2 249 u_3.2.1], [cArr G dh3 249 u_3.2.2.1], [cArr G dh4 1992 u_3.2.2.2.1], [cArr G dh5 40 u_3.2.2.2.2.2.2.2.2.2.2.1], [cArr G dh6 60 u_3.2.2.2.2.2.2.2.2.2.2.2.2.1], [cArr G dh7 93 u_3.2.2.2.2.2.2.2.2.2.2.2.2.2.1]]) := hD
      refine w_S (own := RX10) (cs := [[cArr G dh3 249 u_3.2.2.1], [cArr G dh1 249 u_3.1]]) (rs := [[(dh0, .inr (12, [.ref dh1, .ref dh2, .ref dh3, .ref dh4, .int u_3.2.2.2.2.1, .int u_3.2.2.2.2.2.1, .int u_3.2.2.2.2.2.2.1, .int u_3.2.2.2.2.2.2.2.1, .int u_3.2.2.2.2.2.2.2.2.1, .int u_3.2.2.2.2.2.2.2.2.2.1, .ref dh5, .int u_3.2.2.2.2.2.2.2.2.2.2.2.1, .ref dh6, .ref dh7, .int u_3.2.2.2.2.2.2.2.2.2.2.2.2.2.2.1, .int u_3.2.2.2.2.2.2.2.2.2.2.2.2.2.2.2.1, .int u_3.2.2.2.2.2.2.2.2.2.2.2.2.2.2.2.2]))], [cArr G dh2 249 u_3.2.1], [cArr G dh4 1992 u_3.2.2.2.1], [cArr G dh5 40 u_3.2.2.2.2.2.2.2.2.2.2.1], [cArr G dh6 60 u_3.2.2.2.2.2.2.2.2.2.2.2.2.1], [cArr G dh7 93 u_3.2.2.2.2.2.2.2.2.2.2.2.2.2.1]]) (As := [.ref dh3, .int (0 : Int32), .ref dh1, .int (0 : Int32)]) (rest := []) (c_X10_copies l G dh3 dh1 H.size 249 u_3.2.2.1 (0 : Int32) 249 u_3.1 (0 : Int32) k_5) ⟨hx, hb, hml, hown, hts⟩ g_X10_41 hds_X10_copies hK hST hS hP hD hA [3, 1] [0, 2, 4, 5, 6, 7] rfl rfl rfl ⟨Nat.le_of_ble_eq_true rfl, Nat.le_of_ble_eq_true rfl⟩ ⟨Nat.le_of_ble_eq_true rfl, Nat.le_of_ble_eq_true rfl⟩ rfl hl.1 rfl (Nat.le_of_ble_eq_true rfl) dX10_restore_32 (fun u_7 H locs huu hP hD hS => ?_)
      have eu_7 := huu
      have hP : va_P G.1 vwCl (fl [[cArr G dh3 249 u_3.2.2.1], [cArr G dh1 249 u_7], [(dh0, .inr (12, [.ref dh1, .ref dh2, .ref dh3, .ref dh4, .int u_3.2.2.2.2.1, .int u_3.2.2.2.2.2.1, .int u_3.2.2.2.2.2.2.1, .int u_3.2.2.2.2.2.2.2.1, .int u_3.2.2.2.2.2.2.2.2.1, .int u_3.2.2.2.2.2.2.2.2.2.1, .ref dh5, .int u_3.2.2.2.2.2.2.2.2.2.2.2.1, .ref dh6, .ref dh7, .int u_3.2.2.2.2.2.2.2.2.2.2.2.2.2.2.1, .int u_3.2.2.2.2.2.2.2.2.2.2.2.2.2.2.2.1, .int u_3.2.2.2.2.2.2.2.2.2.2.2.2.2.2.2.2]))], [cArr G dh2 249 u_3.2.1], [cArr G dh4 1992 u_3.2.2.2.1], [cArr G dh5 40 u_3.2.2.2.2.2.2.2.2.2.2.1], [cArr G dh6 60 u_3.2.2.2.2.2.2.2.2.2.2.2.2.1], [cArr G dh7 93 u_3.2.2.2.2.2.2.2.2.2.2.2.2.2.1]]) H := hP
      have hD : va_D A (fl [[cArr G dh3 249 u_3.2.2.1], [cArr G dh1 249 u_7], [(dh0, .inr (12, [.ref dh1, .ref dh2, .ref dh3, .ref dh4, .int u_3.2.2.2.2.1, .int u_3.2.2.2.2.2.1, .int u_3.2.2.2.2.2.2.1, .int u_3.2.2.2.2.2.2.2.1, .int u_3.2.2.2.2.2.2.2.2.1, .int u_3.2.2.2.2.2.2.2.2.2.1, .ref dh5, .int u_3.2.2.2.2.2.2.2.2.2.2.2.1, .ref dh6, .ref dh7, .int u_3.2.2.2.2.2.2.2.2.2.2.2.2.2.2.1, .int u_3.2.2.2.2.2.2.2.2.2.2.2.2.2.2.2.1, .int u_3.2.2.2.2.2.2.2.2.2.2.2.2.2.2.2.2]))], [cArr G dh2 249 u_3.2.1], [cArr G dh4 1992 u_3.2.2.2.1], [cArr G dh5 40 u_3.2.2.2.2.2.2.2.2.2.2.1], [cArr G dh6 60 u_3.2.2.2.2.2.2.2.2.2.2.2.2.1], [cArr G dh7 93 u_3.2.2.2.2.2.2.2.2.2.2.2.2.2.1]]) := hD
      refine W.eq (g2 := F0 m 35 ls []) rfl ?_
      have hF : f_X10_restore d = ((f_X10_attempts (mo4 (mo0 u_3 u_7) (0 : Int32))), (mo4 (mo0 u_3 u_7) (0 : Int32))) := by subst eu_7; exact hF
      have hok : (ok_X10_attempts (mo4 (mo0 u_3 u_7) (0 : Int32)) ∧ True) := by subst eu_7; exact hok
      refine lv_aload_n hx hb dX10_restore_35 rfl (lv_at hl 0 rfl) ?_
      refine lv_iconst (v := (0 : Int32)) hx hb dX10_restore_36 (by decide) ?_
      refine va_put (D := G.1) (ci := 12) (v := .int (0 : Int32)) (ty := .int) (C := RX10) (T := TX10) (N := 17) hx hb hts uws_X10 tyX10 tyX10_ok nmX10 hown hK hP hD hS 2 rfl rfl 4 (by decide) (hts _ u_1684) (fun _ h9 => h9) rfl (by decide +kernel) rfl rfl (Nat.le_of_ble_eq_true rfl) dX10_restore_37 (fun H locs hP hD hS => ?_)
      have hP : va_P G.1 vwCl (fl [[cArr G dh3 249 u_3.2.2.1], [cArr G dh1 249 u_7], [(dh0, .inr (12, [.ref dh1, .ref dh2, .ref dh3, .ref dh4, .int (0 : Int32), .int u_3.2.2.2.2.2.1, .int u_3.2.2.2.2.2.2.1, .int u_3.2.2.2.2.2.2.2.1, .int u_3.2.2.2.2.2.2.2.2.1, .int u_3.2.2.2.2.2.2.2.2.2.1, .ref dh5, .int u_3.2.2.2.2.2.2.2.2.2.2.2.1, .ref dh6, .ref dh7, .int u_3.2.2.2.2.2.2.2.2.2.2.2.2.2.2.1, .int u_3.2.2.2.2.2.2.2.2.2.2.2.2.2.2.2.1, .int u_3.2.2.2.2.2.2.2.2.2.2.2.2.2.2.2.2]))], [cArr G dh2 249 u_3.2.1], [cArr G dh4 1992 u_3.2.2.2.1], [cArr G dh5 40 u_3.2.2.2.2.2.2.2.2.2.2.1], [cArr G dh6 60 u_3.2.2.2.2.2.2.2.2.2.2.2.2.1], [cArr G dh7 93 u_3.2.2.2.2.2.2.2.2.2.2.2.2.2.1]]) H := hP
      have hD : va_D A (fl [[cArr G dh3 249 u_3.2.2.1], [cArr G dh1 249 u_7], [(dh0, .inr (12, [.ref dh1, .ref dh2, .ref dh3, .ref dh4, .int (0 : Int32), .int u_3.2.2.2.2.2.1, .int u_3.2.2.2.2.2.2.1, .int u_3.2.2.2.2.2.2.2.1, .int u_3.2.2.2.2.2.2.2.2.1, .int u_3.2.2.2.2.2.2.2.2.2.1, .ref dh5, .int u_3.2.2.2.2.2.2.2.2.2.2.2.1, .ref dh6, .ref dh7, .int u_3.2.2.2.2.2.2.2.2.2.2.2.2.2.2.1, .int u_3.2.2.2.2.2.2.2.2.2.2.2.2.2.2.2.1, .int u_3.2.2.2.2.2.2.2.2.2.2.2.2.2.2.2.2]))], [cArr G dh2 249 u_3.2.1], [cArr G dh4 1992 u_3.2.2.2.1], [cArr G dh5 40 u_3.2.2.2.2.2.2.2.2.2.2.1], [cArr G dh6 60 u_3.2.2.2.2.2.2.2.2.2.2.2.2.1], [cArr G dh7 93 u_3.2.2.2.2.2.2.2.2.2.2.2.2.2.1]]) := hD
      refine lv_aload_n hx hb dX10_restore_40 rfl (lv_at hl 0 rfl) ?_
      have k_8 := hok.1
      have hok := hok.2
      refine r_V (own := RX10) (v := (some (.int (f_X10_attempts (mo4 (mo0 u_3 u_7) (0 : Int32)))))) (st1 := [.int (f_X10_attempts (mo4 (mo0 u_3 u_7) (0 : Int32)))]) (As := []) (rest := []) (c_X10_attempts l G dh0 dh1 dh2 dh3 dh4 dh5 dh6 dh7 (mo4 (mo0 u_3 u_7) (0 : Int32)) k_8) ⟨hx, hb, hml, hown, hts⟩ g_X10_163 hdv_X10_attempts hK hST hS hP [2, 1, 3, 0, 4, 5, 6, 7] rfl (k0 := 0) rfl rfl rfl ⟨Nat.le_of_ble_eq_true rfl, Nat.le_of_ble_eq_true rfl⟩ ⟨Nat.le_of_ble_eq_true rfl, Nat.le_of_ble_eq_true rfl⟩ rfl hl.1 rfl (Nat.le_of_ble_eq_true rfl) dX10_restore_41 rfl (fun b_9 => ?_)
      have hP := fl_sub (cs := [[(dh0, .inr (12, [.ref dh1, .ref dh2, .ref dh3, .ref dh4, .int (0 : Int32), .int u_3.2.2.2.2.2.1, .int u_3.2.2.2.2.2.2.1, .int u_3.2.2.2.2.2.2.2.1, .int u_3.2.2.2.2.2.2.2.2.1, .int u_3.2.2.2.2.2.2.2.2.2.1, .ref dh5, .int u_3.2.2.2.2.2.2.2.2.2.2.2.1, .ref dh6, .ref dh7, .int u_3.2.2.2.2.2.2.2.2.2.2.2.2.2.2.1, .int u_3.2.2.2.2.2.2.2.2.2.2.2.2.2.2.2.1, .int u_3.2.2.2.2.2.2.2.2.2.2.2.2.2.2.2.2]))], [cArr G dh1 249 u_7], [cArr G dh2 249 u_3.2.1], [cArr G dh3 249 u_3.2.2.1], [cArr G dh4 1992 u_3.2.2.2.1], [cArr G dh5 40 u_3.2.2.2.2.2.2.2.2.2.2.1], [cArr G dh6 60 u_3.2.2.2.2.2.2.2.2.2.2.2.2.1], [cArr G dh7 93 u_3.2.2.2.2.2.2.2.2.2.2.2.2.2.1]]) [2, 1, 3, 0, 4, 5, 6, 7] rfl hP
      have hD := fl_subD (cs := [[(dh0, .inr (12, [.ref dh1, .ref dh2, .ref dh3, .ref dh4, .int (0 : Int32), .int u_3.2.2.2.2.2.1, .int u_3.2.2.2.2.2.2.1, .int u_3.2.2.2.2.2.2.2.1, .int u_3.2.2.2.2.2.2.2.2.1, .int u_3.2.2.2.2.2.2.2.2.2.1, .ref dh5, .int u_3.2.2.2.2.2.2.2.2.2.2.2.1, .ref dh6, .ref dh7, .int u_3.2.2.2.2.2.2.2.2.2.2.2.2.2.2.1, .int u_3.2.2.2.2.2.2.2.2.2.2.2.2.2.2.2.1, .int u_3.2.2.2.2.2.2.2.2.2.2.2.2.2.2.2.2]))], [cArr G dh1 249 u_7], [cArr G dh2 249 u_3.2.1], [cArr G dh3 249 u_3.2.2.1], [cArr G dh4 1992 u_3.2.2.2.1], [cArr G dh5 40 u_3.2.2.2.2.2.2.2.2.2.2.1], [cArr G dh6 60 u_3.2.2.2.2.2.2.2.2.2.2.2.2.1], [cArr G dh7 93 u_3.2.2.2.2.2.2.2.2.2.2.2.2.2.1]]) [2, 1, 3, 0, 4, 5, 6, 7] rfl rfl hD
      exact w_ret (u := ((f_X10_attempts (mo4 (mo0 u_3 u_7) (0 : Int32))), (mo4 (mo0 u_3 u_7) (0 : Int32)))) hx hb hr hlk rfl hS rfl hF.symm hP hD (Nat.le_of_ble_eq_true rfl) (Nat.le_of_ble_eq_true rfl) dX10_restore_44
    · exact absurd c_4 (by decide)
  · have hF := hF.trans (if_pos c_1)
    have hok := Eq.mp (if_pos c_1) hok
    refine lv_iconst (v := (1 : Int32)) hx hb dX10_restore_8 (by decide) ?_
    refine lv_goto (tgt := 13) hx hb dX10_restore_9 (by decide) ?_
    refine lv_iconst (v := (1 : Int32)) hx hb dX10_restore_13 (by decide) ?_
    refine w_V (own := RX10) (cs := [wMo G dh0 dh1 dh2 dh3 dh4 dh5 dh6 dh7 d]) (rs := []) (As := [.int (1 : Int32), .int (1 : Int32)]) (rest := []) (c_X10_isThrown l G dh0 dh1 dh2 dh3 dh4 dh5 dh6 dh7 s.heap.size d (1 : Int32) (1 : Int32) (rfl)) ⟨hx, hb, hml, hown, hts⟩ g_X10_63 hdv_X10_isThrown hK hST hS hP hD hA [0] [] rfl rfl rfl (k0 := 0) rfl rfl rfl ⟨Nat.le_of_ble_eq_true rfl, Nat.le_of_ble_eq_true rfl⟩ ⟨Nat.le_of_ble_eq_true rfl, Nat.le_of_ble_eq_true rfl⟩ rfl hl.1 rfl (Nat.le_of_ble_eq_true rfl) dX10_restore_14 (fun u_11 H locs huu hP hD hS => ?_)
    have eu_11 := huu
    have hP : va_P G.1 vwCl (fl [wMo G dh0 dh1 dh2 dh3 dh4 dh5 dh6 dh7 u_11]) H := hP
    have hD : va_D A (fl [wMo G dh0 dh1 dh2 dh3 dh4 dh5 dh6 dh7 u_11]) := hD
    refine W.eq (g2 := F0 m 17 ls [.int (1 : Int32)]) rfl ?_
    have hF : f_X10_restore d = ((0 : Int32), u_11) := by subst eu_11; exact hF
    refine lv_if_eq (tgt := 22) hx hb dX10_restore_17 (by decide) (fun c_12 => ?_) (fun c_12 => ?_)
    · exact absurd c_12 (by decide)
    · refine lv_iconst (v := (0 : Int32)) hx hb dX10_restore_20 (by decide) ?_
      exact w_ret (u := ((0 : Int32), u_11)) hx hb hr hlk rfl hS rfl hF.symm hP hD (Nat.le_of_ble_eq_true rfl) (Nat.le_of_ble_eq_true rfl) dX10_restore_21
