theorem dX2_describePhases_0 : decode cX2_describePhases 0 = .ok (.aload_n 0, 1) := by decide +kernel
theorem dX2_describePhases_1 : decode cX2_describePhases 1 = .ok (.getfield 15, 3) := by decide +kernel
theorem dX2_describePhases_4 : decode cX2_describePhases 4 = .ok (.iload_n 1, 1) := by decide +kernel
theorem dX2_describePhases_5 : decode cX2_describePhases 5 = .ok (.invokestatic 47, 3) := by decide +kernel
theorem dX2_describePhases_8 : decode cX2_describePhases 8 = .ok (.ifCond .ne 10, 3) := by decide +kernel
theorem dX2_describePhases_18 : decode cX2_describePhases 18 = .ok (.iconst 0, 1) := by decide +kernel
theorem dX2_describePhases_19 : decode cX2_describePhases 19 = .ok (.istore_n 3, 1) := by decide +kernel
theorem dX2_describePhases_20 : decode cX2_describePhases 20 = .ok (.iload_n 3, 1) := by decide +kernel
theorem dX2_describePhases_21 : decode cX2_describePhases 21 = .ok (.bipush 8, 2) := by decide +kernel
theorem dX2_describePhases_23 : decode cX2_describePhases 23 = .ok (.if_icmp .ge 24, 3) := by decide +kernel
theorem dX2_describePhases_47 : decode cX2_describePhases 47 = .ok (.return_, 1) := by decide +kernel
theorem dX2_describePhases_26 : decode cX2_describePhases 26 = .ok (.aload_n 0, 1) := by decide +kernel
theorem dX2_describePhases_27 : decode cX2_describePhases 27 = .ok (.iload_n 1, 1) := by decide +kernel
theorem dX2_describePhases_28 : decode cX2_describePhases 28 = .ok (.iload_n 3, 1) := by decide +kernel
theorem dX2_describePhases_29 : decode cX2_describePhases 29 = .ok (.invokevirtual 79, 3) := by decide +kernel
theorem u_508 : Cond.methodLink RX2 79 yX2_containsPhase ∈ UW := uw 508 (by decide +kernel) rfl
theorem g_X2_79 : GoodIn UW (wsV RX2 79 RX2 yX2_containsPhase (wsU yX2_containsPhase cX2_containsPhase 3 (some .boolean))) := gV u_508 u_509 u_510 u_23 u_511
theorem dX2_describePhases_32 : decode cX2_describePhases 32 = .ok (.ifCond .eq 9, 3) := by decide +kernel
theorem dX2_describePhases_41 : decode cX2_describePhases 41 = .ok (.iinc 3 1, 3) := by decide +kernel
theorem dX2_describePhases_44 : decode cX2_describePhases 44 = .ok (.goto (-24), 3) := by decide +kernel
theorem dX2_describePhases_35 : decode cX2_describePhases 35 = .ok (.aload_n 2, 1) := by decide +kernel
theorem dX2_describePhases_36 : decode cX2_describePhases 36 = .ok (.iload_n 3, 1) := by decide +kernel
theorem dX2_describePhases_37 : decode cX2_describePhases 37 = .ok (.invokevirtual 71, 3) := by decide +kernel
theorem u_512 : Cond.methodLink RX2 71 yJ4_append_bf812 ∈ UW := uw 512 (by decide +kernel) rfl
theorem u_320 : Cond.instanceMethod yJ4_append_bf812 ∈ UW := uw 320 (by decide +kernel) rfl
theorem u_321 : Cond.selects RJ4 yJ4_append_bf812 yJ4_append_bf812 ∈ UW := uw 321 (by decide +kernel) rfl
theorem u_30 : Cond.initialized RJ4 ∈ UW := uw 30 (by decide +kernel) rfl
theorem u_322 : Cond.code yJ4_append_bf812 cJ4_append_bf812 2 (some (.object "java/lang/StringBuilder")) ∈ UW := uw 322 (by decide +kernel) rfl
theorem g_X2_71 : GoodIn UW (wsV RX2 71 RJ4 yJ4_append_bf812 (wsU yJ4_append_bf812 cJ4_append_bf812 2 (some (.object "java/lang/StringBuilder")))) := gV u_512 u_320 u_321 u_30 u_322
theorem hdv_J4_append_bf812 : yJ4_append_bf812.cls = RJ4 ∧ yJ4_append_bf812.cls ≠ "java/lang/invoke/MethodHandle" ∧ yJ4_append_bf812.cls ≠ "java/lang/invoke/VarHandle" ∧ (parseMethodDescriptor yJ4_append_bf812.desc).map (fun d => d.parameters.length) = some 1 := by decide +kernel
theorem dX2_describePhases_40 : decode cX2_describePhases 40 = .ok (.pop, 1) := by decide +kernel
theorem dX2_describePhases_11 : decode cX2_describePhases 11 = .ok (.aload_n 2, 1) := by decide +kernel
theorem dX2_describePhases_12 : decode cX2_describePhases 12 = .ok (.bipush 45, 2) := by decide +kernel
theorem dX2_describePhases_14 : decode cX2_describePhases 14 = .ok (.invokevirtual 65, 3) := by decide +kernel
theorem u_507 : Cond.methodLink RX2 65 yJ4_append_cf468 ∈ UW := uw 507 (by decide +kernel) rfl
theorem u_473 : Cond.instanceMethod yJ4_append_cf468 ∈ UW := uw 473 (by decide +kernel) rfl
theorem u_474 : Cond.selects RJ4 yJ4_append_cf468 yJ4_append_cf468 ∈ UW := uw 474 (by decide +kernel) rfl
theorem u_475 : Cond.code yJ4_append_cf468 cJ4_append_cf468 2 (some (.object "java/lang/StringBuilder")) ∈ UW := uw 475 (by decide +kernel) rfl
theorem g_X2_65 : GoodIn UW (wsV RX2 65 RJ4 yJ4_append_cf468 (wsU yJ4_append_cf468 cJ4_append_cf468 2 (some (.object "java/lang/StringBuilder")))) := gV u_507 u_473 u_474 u_30 u_475
theorem hdv_J4_append_cf468 : yJ4_append_cf468.cls = RJ4 ∧ yJ4_append_cf468.cls ≠ "java/lang/invoke/MethodHandle" ∧ yJ4_append_cf468.cls ≠ "java/lang/invoke/VarHandle" ∧ (parseMethodDescriptor yJ4_append_cf468.desc).map (fun d => d.parameters.length) = some 1 := by decide +kernel
theorem dX2_describePhases_17 : decode cX2_describePhases 17 = .ok (.pop, 1) := by decide +kernel
def lp_X2_describePhases_20 (d : DoV) (dr : Int32) (sb : SbV) : Nat → Int32 → SbV → SbV
  | 0, _, _ => sb
  | n + 1, x3, sbL => (if (8 : Int32) ≤ x3 then sbL else (if (f_X2_containsPhase d dr x3) = (0 : Int32) then (lp_X2_describePhases_20 d dr sb n (x3 + 1) sbL) else (let u_8 : SbV := (f_J4_append_bf812 sbL x3); (lp_X2_describePhases_20 d dr sb n (x3 + 1) u_8))))
def okl_lp_X2_describePhases_20 (d : DoV) (dr : Int32) (sb : SbV) : Nat → Int32 → SbV → Prop
  | 0, _, _ => True
  | n + 1, x3, sbL => (if (8 : Int32) ≤ x3 then True else (if (f_X2_containsPhase d dr x3) = (0 : Int32) then (okl_lp_X2_describePhases_20 d dr sb n (x3 + 1) sbL) else (ok_J4_append_bf812 sbL x3 ∧ (let u_8 : SbV := (f_J4_append_bf812 sbL x3); (okl_lp_X2_describePhases_20 d dr sb n (x3 + 1) u_8)))))
def lp_X2_describePhases_20' (d : DoV) (dr : Int32) (sb : SbV) (u_11 : SbV) : Nat → Int32 → SbV → SbV
  | 0, _, _ => sb
  | n + 1, x3, sbL => (if (8 : Int32) ≤ x3 then sbL else (if (f_X2_containsPhase d dr x3) = (0 : Int32) then (lp_X2_describePhases_20' d dr sb u_11 n (x3 + 1) sbL) else (let u_17 : SbV := (f_J4_append_bf812 sbL x3); (lp_X2_describePhases_20' d dr sb u_11 n (x3 + 1) u_17))))
def okl_lp_X2_describePhases_20' (d : DoV) (dr : Int32) (sb : SbV) (u_11 : SbV) : Nat → Int32 → SbV → Prop
  | 0, _, _ => True
  | n + 1, x3, sbL => (if (8 : Int32) ≤ x3 then True else (if (f_X2_containsPhase d dr x3) = (0 : Int32) then (okl_lp_X2_describePhases_20' d dr sb u_11 n (x3 + 1) sbL) else (ok_J4_append_bf812 sbL x3 ∧ (let u_17 : SbV := (f_J4_append_bf812 sbL x3); (okl_lp_X2_describePhases_20' d dr sb u_11 n (x3 + 1) u_17)))))
def f_X2_describePhases (d : DoV) (dr : Int32) (sb : SbV) : SbV := (if (f_X7_at 8 d.2.1 dr) = (0 : Int32) then (let u_11 : SbV := (f_J4_append_cf468 sb (45 : Int32)); (lp_X2_describePhases_20' d dr sb u_11 ((((8 : Int32)).toInt - ((0 : Int32)).toInt).toNat + 1) (0 : Int32) u_11)) else (lp_X2_describePhases_20 d dr sb ((((8 : Int32)).toInt - ((0 : Int32)).toInt).toNat + 1) (0 : Int32) sb))
def ok_X2_describePhases (d : DoV) (dr : Int32) (sb : SbV) : Prop := (if (f_X7_at 8 d.2.1 dr) = (0 : Int32) then (ok_J4_append_cf468 sb (45 : Int32) ∧ (let u_11 : SbV := (f_J4_append_cf468 sb (45 : Int32)); (okl_lp_X2_describePhases_20' d dr sb u_11 ((((8 : Int32)).toInt - ((0 : Int32)).toInt).toNat + 1) (0 : Int32) u_11))) else (okl_lp_X2_describePhases_20 d dr sb ((((8 : Int32)).toInt - ((0 : Int32)).toInt).toNat + 1) (0 : Int32) sb))
set_option maxHeartbeats 4000000 in
set_option maxRecDepth 100000 in
theorem c_X2_describePhases (l : Launch) (G : GG) (dh0 : Nat) (dh1 : Nat) (dh2 : Nat) (dh3 : Nat) (dh4 : Nat) (sbh0 : Nat) (sbh1 : Nat) (sz : Nat) (d : DoV) (dr : Int32) (sb : SbV) (hok : ok_X2_describePhases d dr sb) : wMet l yX2_describePhases cX2_describePhases 4 none 7 10 2000 G (fl [wDo G dh0 dh1 dh2 dh3 dh4 d, [(sbh0, .inr (1, [.ref sbh1, .int (0 : Int32), .int sb.2.2.1, .int sb.2.2.2]))], [(sbh1, .inl (G.2.1 2, sb.1, .inl sb.2.1))]]) [.ref dh0, .int dr, .ref sbh0] sz (fun u : Nat × SbV => none) (fun u : Nat × SbV => u.2 = f_X2_describePhases d dr sb) (fun u : Nat × SbV => fl [wDo G dh0 dh1 dh2 dh3 dh4 d, [(sbh0, .inr (1, [.ref u.1, .int (0 : Int32), .int u.2.2.2.1, .int u.2.2.2.2]))], [(u.1, .inl (G.2.1 2, u.2.1, .inl u.2.2.1))]]) := by
  refine w_start (by decide +kernel) (Nat.le_of_ble_eq_true rfl) ?_
  intro p e s m below meth c A hx hb hr hml hts hown hlk hin hP hD hA hK hST ls hl
  have hS : va_S A s.heap s.heap [] := va_S.rf
  have hown : s.vm.findClass RX2 = some m.cls := hown
  have hl : lv_has ls 4 [(0, .ref dh0), (1, .int dr), (2, .ref sbh0)] := hl
  have hF : f_X2_describePhases d dr sb = (if (f_X7_at 8 d.2.1 dr) = (0 : Int32) then (let u_11 : SbV := (f_J4_append_cf468 sb (45 : Int32)); (lp_X2_describePhases_20' d dr sb u_11 ((((8 : Int32)).toInt - ((0 : Int32)).toInt).toNat + 1) (0 : Int32) u_11)) else (lp_X2_describePhases_20 d dr sb ((((8 : Int32)).toInt - ((0 : Int32)).toInt).toNat + 1) (0 : Int32) sb)) := rfl
  have hok : (if (f_X7_at 8 d.2.1 dr) = (0 : Int32) then (ok_J4_append_cf468 sb (45 : Int32) ∧ (let u_11 : SbV := (f_J4_append_cf468 sb (45 : Int32)); (okl_lp_X2_describePhases_20' d dr sb u_11 ((((8 : Int32)).toInt - ((0 : Int32)).toInt).toNat + 1) (0 : Int32) u_11))) else (okl_lp_X2_describePhases_20 d dr sb ((((8 : Int32)).toInt - ((0 : Int32)).toInt).toNat + 1) (0 : Int32) sb)) := hok
  refine lv_aload_n hx hb dX2_describePhases_0 rfl (lv_at hl 0 rfl) ?_
  refine va_get (D := G.1) (ci := 6) (v := .ref dh1) (C := RX2) (T := TX2) (N := 5) hx hb hts uws_X2 hown hK hP 0 rfl rfl 1 (by decide) (hts _ u_943) (fun _ h9 => h9) rfl dX2_describePhases_1 ?_
  refine lv_iload_n hx hb dX2_describePhases_4 rfl (lv_at hl 1 rfl) ?_
  refine r_S (own := RX2) (v := (some (.int (f_X7_at 8 d.2.1 dr)))) (st1 := [.int (f_X7_at 8 d.2.1 dr)]) (As := [.ref dh1, .int dr]) (rest := []) (c_X7_at l G dh1 8 d.2.1 dr (by decide)) ⟨hx, hb, hml, hown, hts⟩ g_X2_47 hds_X7_at hK hST hS hP [1] rfl ⟨Nat.le_of_ble_eq_true rfl, Nat.le_of_ble_eq_true rfl⟩ ⟨Nat.le_of_ble_eq_true rfl, Nat.le_of_ble_eq_true rfl⟩ rfl hl.1 rfl (Nat.le_of_ble_eq_true rfl) dX2_describePhases_5 rfl (fun b_1 => ?_)
  refine lv_if_ne (tgt := 18) hx hb dX2_describePhases_8 (by decide) (fun c_2 => ?_) (fun c_2 => ?_)
  · have hF := hF.trans (if_neg c_2)
    have hok := Eq.mp (if_neg c_2) hok
    refine lv_iconst (v := (0 : Int32)) hx hb dX2_describePhases_18 (by decide) ?_
    refine lv_istore_n (lv' := [(3, .int (0 : Int32)), (0, .ref dh0), (1, .int dr), (2, .ref sbh0)]) hx hb dX2_describePhases_19 rfl hl (by decide) rfl (fun ls hl => ?_)
    have L20 : ∀ (n : Nat) (x3 : Int32) (sbL : SbV) (sbLq : Nat) (kc ks : Nat) (H : Heap) (locs : List Loc) (ls : Array Slot), lv_has ls 4 [(3, .int x3), (0, .ref dh0), (1, .int dr), (2, .ref sbh0)] → va_P G.1 vwCl (fl [wDo G dh0 dh1 dh2 dh3 dh4 d, [(sbh0, .inr (1, [.ref sbLq, .int (0 : Int32), .int sbL.2.2.1, .int sbL.2.2.2]))], [(sbLq, .inl (G.2.1 2, sbL.1, .inl sbL.2.1))]]) H → va_D A (fl [wDo G dh0 dh1 dh2 dh3 dh4 d, [(sbh0, .inr (1, [.ref sbLq, .int (0 : Int32), .int sbL.2.2.1, .int sbL.2.2.2]))], [(sbLq, .inl (G.2.1 2, sbL.1, .inl sbL.2.1))]]) → va_S A s.heap H locs → kc + n * 1 + 0 ≤ 10 → ks + n * 200 + 0 ≤ 2000 → (upI x3 (8 : Int32) n) → f_X2_describePhases d dr sb = lp_X2_describePhases_20 d dr sb n x3 sbL → okl_lp_X2_describePhases_20 d dr sb n x3 sbL → W p l e (rmd 7 10 2000) s m ([.ref dh0, .int dr, .ref sbh0] : List Value).toArray below meth c H locs kc ks (MQ below (wQ (fun u : Nat × SbV => none) (fun u : Nat × SbV => u.2 = f_X2_describePhases d dr sb) (fun u : Nat × SbV => fl [wDo G dh0 dh1 dh2 dh3 dh4 d, [(sbh0, .inr (1, [.ref u.1, .int (0 : Int32), .int u.2.2.2.1, .int u.2.2.2.2]))], [(u.1, .inl (G.2.1 2, u.2.1, .inl u.2.2.1))]]) G.1 A) ([.ref dh0, .int dr, .ref sbh0] : List Value).toArray s 10 2000 A) (F0 m 20 ls []) := by
      intro n
      induction n with
      | zero => intro x3 sbL sbLq kc ks H locs ls hl _ _ _ _ _ hu; exact absurd hu (upI_0)
      | succ n ih =>
        intro x3 sbL sbLq kc ks H locs ls hl hP hD hS hkc hks hu hF hok
        have hF : f_X2_describePhases d dr sb = (if (8 : Int32) ≤ x3 then sbL else (if (f_X2_containsPhase d dr x3) = (0 : Int32) then (lp_X2_describePhases_20 d dr sb n (x3 + 1) sbL) else (let u_8 : SbV := (f_J4_append_bf812 sbL x3); (lp_X2_describePhases_20 d dr sb n (x3 + 1) u_8)))) := hF
        have hok : (if (8 : Int32) ≤ x3 then True else (if (f_X2_containsPhase d dr x3) = (0 : Int32) then (okl_lp_X2_describePhases_20 d dr sb n (x3 + 1) sbL) else (ok_J4_append_bf812 sbL x3 ∧ (let u_8 : SbV := (f_J4_append_bf812 sbL x3); (okl_lp_X2_describePhases_20 d dr sb n (x3 + 1) u_8))))) := hok
        refine lv_iload_n hx hb dX2_describePhases_20 rfl (lv_at hl 0 rfl) ?_
        refine lv_bipush (v := (8 : Int32)) hx hb dX2_describePhases_21 (by decide) ?_
        refine lv_icmp_ge (tgt := 47) hx hb dX2_describePhases_23 (by decide) (fun c_3 => ?_) (fun c_3 => ?_)
        · have hF := hF.trans (if_pos c_3)
          have hok := Eq.mp (if_pos c_3) hok
          exact w_retV (u := (sbLq, sbL)) hx hb hr hlk hS rfl hF.symm hP hD ((by show _ ≤ 10; omega)) ((by show _ ≤ 2000; omega)) dX2_describePhases_47
        · have hF := hF.trans (if_neg c_3)
          have hok := Eq.mp (if_neg c_3) hok
          refine lv_aload_n hx hb dX2_describePhases_26 rfl (lv_at hl 1 rfl) ?_
          refine lv_iload_n hx hb dX2_describePhases_27 rfl (lv_at hl 2 rfl) ?_
          refine lv_iload_n hx hb dX2_describePhases_28 rfl (lv_at hl 0 rfl) ?_
          refine r_V (own := RX2) (v := (some (.int (f_X2_containsPhase d dr x3)))) (st1 := [.int (f_X2_containsPhase d dr x3)]) (As := [.int dr, .int x3]) (rest := []) (c_X2_containsPhase l G dh0 dh1 dh2 dh3 dh4 d dr x3) ⟨hx, hb, hml, hown, hts⟩ g_X2_79 hdv_X2_containsPhase hK hST hS hP [0, 1, 2, 3, 4] rfl (k0 := 0) rfl rfl rfl ⟨Nat.le_of_ble_eq_true rfl, Nat.le_of_ble_eq_true rfl⟩ ⟨(by show _ ≤ 10; omega), (by show _ ≤ 2000; omega)⟩ rfl hl.1 rfl (Nat.le_of_ble_eq_true rfl) dX2_describePhases_29 rfl (fun b_4 => ?_)
          refine lv_if_eq (tgt := 41) hx hb dX2_describePhases_32 (by decide) (fun c_5 => ?_) (fun c_5 => ?_)
          · have hF := hF.trans (if_pos c_5)
            have hok := Eq.mp (if_pos c_5) hok
            refine lv_iinc (v := (x3 + 1)) (lv' := [(3, .int (x3 + 1)), (0, .ref dh0), (1, .int dr), (2, .ref sbh0)]) hx hb dX2_describePhases_41 hl (k := 0) rfl rfl (by decide) rfl (fun ls hl => ?_)
            refine lv_goto (tgt := 20) hx hb dX2_describePhases_44 (by decide) ?_
            exact ih (x3 + 1) sbL sbLq _ _ _ _ ls (lv_sub hl [0, 1, 2, 3] rfl) hP hD hS (by omega) (by omega) (upI_s (Int32.not_le.mp c_3) hu) hF hok
          · have hF := hF.trans (if_neg c_5)
            have hok := Eq.mp (if_neg c_5) hok
            refine lv_aload_n hx hb dX2_describePhases_35 rfl (lv_at hl 3 rfl) ?_
            refine lv_iload_n hx hb dX2_describePhases_36 rfl (lv_at hl 0 rfl) ?_
            have k_6 := hok.1
            have hok := hok.2
            refine w_V (own := RX2) (cs := [[(sbh0, .inr (1, [.ref sbLq, .int (0 : Int32), .int sbL.2.2.1, .int sbL.2.2.2]))], [(sbLq, .inl (G.2.1 2, sbL.1, .inl sbL.2.1))]]) (rs := [wDo G dh0 dh1 dh2 dh3 dh4 d]) (As := [.int x3]) (rest := []) (c_J4_append_bf812 l G sbh0 sbLq H.size sbL x3 k_6) ⟨hx, hb, hml, hown, hts⟩ g_X2_71 hdv_J4_append_bf812 hK hST hS hP hD hA [1, 2] [0] rfl rfl rfl (k0 := 0) rfl rfl rfl ⟨Nat.le_of_ble_eq_true rfl, Nat.le_of_ble_eq_true rfl⟩ ⟨(by show _ ≤ 10; omega), (by show _ ≤ 2000; omega)⟩ rfl hl.1 rfl (Nat.le_of_ble_eq_true rfl) dX2_describePhases_37 (fun u_8 H locs huu hP hD hS => ?_)
            obtain ⟨qu_8, u_8⟩ := u_8
            have eu_8 : u_8 = (f_J4_append_bf812 sbL x3) := huu
            have hP : va_P G.1 vwCl (fl [[(sbh0, .inr (1, [.ref qu_8, .int (0 : Int32), .int u_8.2.2.1, .int u_8.2.2.2]))], [(qu_8, .inl (G.2.1 2, u_8.1, .inl u_8.2.1))], wDo G dh0 dh1 dh2 dh3 dh4 d]) H := hP
            have hD : va_D A (fl [[(sbh0, .inr (1, [.ref qu_8, .int (0 : Int32), .int u_8.2.2.1, .int u_8.2.2.2]))], [(qu_8, .inl (G.2.1 2, u_8.1, .inl u_8.2.1))], wDo G dh0 dh1 dh2 dh3 dh4 d]) := hD
            refine W.eq (g2 := F0 m 40 ls [.ref sbh0]) rfl ?_
            have hF : f_X2_describePhases d dr sb = (lp_X2_describePhases_20 d dr sb n (x3 + 1) u_8) := by subst eu_8; exact hF
            have hok : (okl_lp_X2_describePhases_20 d dr sb n (x3 + 1) u_8) := by subst eu_8; exact hok
            refine lv_pop hx hb dX2_describePhases_40 rfl ?_
            refine lv_iinc (v := (x3 + 1)) (lv' := [(3, .int (x3 + 1)), (0, .ref dh0), (1, .int dr), (2, .ref sbh0)]) hx hb dX2_describePhases_41 hl (k := 0) rfl rfl (by decide) rfl (fun ls hl => ?_)
            refine lv_goto (tgt := 20) hx hb dX2_describePhases_44 (by decide) ?_
            have hP := fl_sub (cs := [wDo G dh0 dh1 dh2 dh3 dh4 d, [(sbh0, .inr (1, [.ref qu_8, .int (0 : Int32), .int u_8.2.2.1, .int u_8.2.2.2]))], [(qu_8, .inl (G.2.1 2, u_8.1, .inl u_8.2.1))]]) [2, 0, 1] rfl hP
            have hD := fl_subD (cs := [wDo G dh0 dh1 dh2 dh3 dh4 d, [(sbh0, .inr (1, [.ref qu_8, .int (0 : Int32), .int u_8.2.2.1, .int u_8.2.2.2]))], [(qu_8, .inl (G.2.1 2, u_8.1, .inl u_8.2.1))]]) [2, 0, 1] rfl rfl hD
            exact ih (x3 + 1) u_8 qu_8 _ _ _ _ ls (lv_sub hl [0, 1, 2, 3] rfl) hP hD hS (by omega) (by omega) (upI_s (Int32.not_le.mp c_3) hu) hF hok
    exact L20 ((((8 : Int32)).toInt - ((0 : Int32)).toInt).toNat + 1) (0 : Int32) sb sbh1 _ _ _ _ ls (lv_sub hl [0, 1, 2, 3] rfl) hP hD hS (by decide +kernel) (by decide +kernel) (upI_i) hF hok
  · have hF := hF.trans (if_pos c_2)
    have hok := Eq.mp (if_pos c_2) hok
    refine lv_aload_n hx hb dX2_describePhases_11 rfl (lv_at hl 2 rfl) ?_
    refine lv_bipush (v := (45 : Int32)) hx hb dX2_describePhases_12 (by decide) ?_
    have k_9 := hok.1
    have hok := hok.2
    refine w_V (own := RX2) (cs := [[(sbh0, .inr (1, [.ref sbh1, .int (0 : Int32), .int sb.2.2.1, .int sb.2.2.2]))], [(sbh1, .inl (G.2.1 2, sb.1, .inl sb.2.1))]]) (rs := [wDo G dh0 dh1 dh2 dh3 dh4 d]) (As := [.int (45 : Int32)]) (rest := []) (c_J4_append_cf468 l G sbh0 sbh1 s.heap.size sb (45 : Int32) k_9) ⟨hx, hb, hml, hown, hts⟩ g_X2_65 hdv_J4_append_cf468 hK hST hS hP hD hA [1, 2] [0] rfl rfl rfl (k0 := 0) rfl rfl rfl ⟨Nat.le_of_ble_eq_true rfl, Nat.le_of_ble_eq_true rfl⟩ ⟨Nat.le_of_ble_eq_true rfl, Nat.le_of_ble_eq_true rfl⟩ rfl hl.1 rfl (Nat.le_of_ble_eq_true rfl) dX2_describePhases_14 (fun u_11 H locs huu hP hD hS => ?_)
    obtain ⟨qu_11, u_11⟩ := u_11
    have eu_11 : u_11 = (f_J4_append_cf468 sb (45 : Int32)) := huu
    have hP : va_P G.1 vwCl (fl [[(sbh0, .inr (1, [.ref qu_11, .int (0 : Int32), .int u_11.2.2.1, .int u_11.2.2.2]))], [(qu_11, .inl (G.2.1 2, u_11.1, .inl u_11.2.1))], wDo G dh0 dh1 dh2 dh3 dh4 d]) H := hP
    have hD : va_D A (fl [[(sbh0, .inr (1, [.ref qu_11, .int (0 : Int32), .int u_11.2.2.1, .int u_11.2.2.2]))], [(qu_11, .inl (G.2.1 2, u_11.1, .inl u_11.2.1))], wDo G dh0 dh1 dh2 dh3 dh4 d]) := hD
    refine W.eq (g2 := F0 m 17 ls [.ref sbh0]) rfl ?_
    have hF : f_X2_describePhases d dr sb = (lp_X2_describePhases_20' d dr sb u_11 ((((8 : Int32)).toInt - ((0 : Int32)).toInt).toNat + 1) (0 : Int32) u_11) := by subst eu_11; exact hF
    have hok : (okl_lp_X2_describePhases_20' d dr sb u_11 ((((8 : Int32)).toInt - ((0 : Int32)).toInt).toNat + 1) (0 : Int32) u_11) := by subst eu_11; exact hok
    refine lv_pop hx hb dX2_describePhases_17 rfl ?_
    refine lv_iconst (v := (0 : Int32)) hx hb dX2_describePhases_18 (by decide) ?_
    refine lv_istore_n (lv' := [(3, .int (0 : Int32)), (0, .ref dh0), (1, .int dr), (2, .ref sbh0)]) hx hb dX2_describePhases_19 rfl hl (by decide) rfl (fun ls hl => ?_)
    have L20 : ∀ (n : Nat) (x3 : Int32) (sbL : SbV) (sbLq : Nat) (kc ks : Nat) (H : Heap) (locs : List Loc) (ls : Array Slot), lv_has ls 4 [(3, .int x3), (0, .ref dh0), (1, .int dr), (2, .ref sbh0)] → va_P G.1 vwCl (fl [[(sbh0, .inr (1, [.ref sbLq, .int (0 : Int32), .int sbL.2.2.1, .int sbL.2.2.2]))], [(sbLq, .inl (G.2.1 2, sbL.1, .inl sbL.2.1))], wDo G dh0 dh1 dh2 dh3 dh4 d]) H → va_D A (fl [[(sbh0, .inr (1, [.ref sbLq, .int (0 : Int32), .int sbL.2.2.1, .int sbL.2.2.2]))], [(sbLq, .inl (G.2.1 2, sbL.1, .inl sbL.2.1))], wDo G dh0 dh1 dh2 dh3 dh4 d]) → va_S A s.heap H locs → kc + n * 1 + 0 ≤ 10 → ks + n * 200 + 0 ≤ 2000 → (upI x3 (8 : Int32) n) → f_X2_describePhases d dr sb = lp_X2_describePhases_20' d dr sb u_11 n x3 sbL → okl_lp_X2_describePhases_20' d dr sb u_11 n x3 sbL → W p l e (rmd 7 10 2000) s m ([.ref dh0, .int dr, .ref sbh0] : List Value).toArray below meth c H locs kc ks (MQ below (wQ (fun u : Nat × SbV => none) (fun u : Nat × SbV => u.2 = f_X2_describePhases d dr sb) (fun u : Nat × SbV => fl [wDo G dh0 dh1 dh2 dh3 dh4 d, [(sbh0, .inr (1, [.ref u.1, .int (0 : Int32), .int u.2.2.2.1, .int u.2.2.2.2]))], [(u.1, .inl (G.2.1 2, u.2.1, .inl u.2.2.1))]]) G.1 A) ([.ref dh0, .int dr, .ref sbh0] : List Value).toArray s 10 2000 A) (F0 m 20 ls []) := by
      intro n
      induction n with
      | zero => intro x3 sbL sbLq kc ks H locs ls hl _ _ _ _ _ hu; exact absurd hu (upI_0)
      | succ n ih =>
        intro x3 sbL sbLq kc ks H locs ls hl hP hD hS hkc hks hu hF hok
        have hF : f_X2_describePhases d dr sb = (if (8 : Int32) ≤ x3 then sbL else (if (f_X2_containsPhase d dr x3) = (0 : Int32) then (lp_X2_describePhases_20' d dr sb u_11 n (x3 + 1) sbL) else (let u_17 : SbV := (f_J4_append_bf812 sbL x3); (lp_X2_describePhases_20' d dr sb u_11 n (x3 + 1) u_17)))) := hF
        have hok : (if (8 : Int32) ≤ x3 then True else (if (f_X2_containsPhase d dr x3) = (0 : Int32) then (okl_lp_X2_describePhases_20' d dr sb u_11 n (x3 + 1) sbL) else (ok_J4_append_bf812 sbL x3 ∧ (let u_17 : SbV := (f_J4_append_bf812 sbL x3); (okl_lp_X2_describePhases_20' d dr sb u_11 n (x3 + 1) u_17))))) := hok
        refine lv_iload_n hx hb dX2_describePhases_20 rfl (lv_at hl 0 rfl) ?_
        refine lv_bipush (v := (8 : Int32)) hx hb dX2_describePhases_21 (by decide) ?_
        refine lv_icmp_ge (tgt := 47) hx hb dX2_describePhases_23 (by decide) (fun c_12 => ?_) (fun c_12 => ?_)
        · have hF := hF.trans (if_pos c_12)
          have hok := Eq.mp (if_pos c_12) hok
          have hP := fl_sub (cs := [wDo G dh0 dh1 dh2 dh3 dh4 d, [(sbh0, .inr (1, [.ref sbLq, .int (0 : Int32), .int sbL.2.2.1, .int sbL.2.2.2]))], [(sbLq, .inl (G.2.1 2, sbL.1, .inl sbL.2.1))]]) [2, 0, 1] rfl hP
          have hD := fl_subD (cs := [wDo G dh0 dh1 dh2 dh3 dh4 d, [(sbh0, .inr (1, [.ref sbLq, .int (0 : Int32), .int sbL.2.2.1, .int sbL.2.2.2]))], [(sbLq, .inl (G.2.1 2, sbL.1, .inl sbL.2.1))]]) [2, 0, 1] rfl rfl hD
          exact w_retV (u := (sbLq, sbL)) hx hb hr hlk hS rfl hF.symm hP hD ((by show _ ≤ 10; omega)) ((by show _ ≤ 2000; omega)) dX2_describePhases_47
        · have hF := hF.trans (if_neg c_12)
          have hok := Eq.mp (if_neg c_12) hok
          refine lv_aload_n hx hb dX2_describePhases_26 rfl (lv_at hl 1 rfl) ?_
          refine lv_iload_n hx hb dX2_describePhases_27 rfl (lv_at hl 2 rfl) ?_
          refine lv_iload_n hx hb dX2_describePhases_28 rfl (lv_at hl 0 rfl) ?_
          refine r_V (own := RX2) (v := (some (.int (f_X2_containsPhase d dr x3)))) (st1 := [.int (f_X2_containsPhase d dr x3)]) (As := [.int dr, .int x3]) (rest := []) (c_X2_containsPhase l G dh0 dh1 dh2 dh3 dh4 d dr x3) ⟨hx, hb, hml, hown, hts⟩ g_X2_79 hdv_X2_containsPhase hK hST hS hP [2, 3, 4, 5, 6] rfl (k0 := 0) rfl rfl rfl ⟨Nat.le_of_ble_eq_true rfl, Nat.le_of_ble_eq_true rfl⟩ ⟨(by show _ ≤ 10; omega), (by show _ ≤ 2000; omega)⟩ rfl hl.1 rfl (Nat.le_of_ble_eq_true rfl) dX2_describePhases_29 rfl (fun b_13 => ?_)
          refine lv_if_eq (tgt := 41) hx hb dX2_describePhases_32 (by decide) (fun c_14 => ?_) (fun c_14 => ?_)
          · have hF := hF.trans (if_pos c_14)
            have hok := Eq.mp (if_pos c_14) hok
            refine lv_iinc (v := (x3 + 1)) (lv' := [(3, .int (x3 + 1)), (0, .ref dh0), (1, .int dr), (2, .ref sbh0)]) hx hb dX2_describePhases_41 hl (k := 0) rfl rfl (by decide) rfl (fun ls hl => ?_)
            refine lv_goto (tgt := 20) hx hb dX2_describePhases_44 (by decide) ?_
            exact ih (x3 + 1) sbL sbLq _ _ _ _ ls (lv_sub hl [0, 1, 2, 3] rfl) hP hD hS (by omega) (by omega) (upI_s (Int32.not_le.mp c_12) hu) hF hok
          · have hF := hF.trans (if_neg c_14)
            have hok := Eq.mp (if_neg c_14) hok
            refine lv_aload_n hx hb dX2_describePhases_35 rfl (lv_at hl 3 rfl) ?_
            refine lv_iload_n hx hb dX2_describePhases_36 rfl (lv_at hl 0 rfl) ?_
            have k_15 := hok.1
            have hok := hok.2
            refine w_V (own := RX2) (cs := [[(sbh0, .inr (1, [.ref sbLq, .int (0 : Int32), .int sbL.2.2.1, .int sbL.2.2.2]))], [(sbLq, .inl (G.2.1 2, sbL.1, .inl sbL.2.1))]]) (rs := [wDo G dh0 dh1 dh2 dh3 dh4 d]) (As := [.int x3]) (rest := []) (c_J4_append_bf812 l G sbh0 sbLq H.size sbL x3 k_15) ⟨hx, hb, hml, hown, hts⟩ g_X2_71 hdv_J4_append_bf812 hK hST hS hP hD hA [0, 1] [2] rfl rfl rfl (k0 := 0) rfl rfl rfl ⟨Nat.le_of_ble_eq_true rfl, Nat.le_of_ble_eq_true rfl⟩ ⟨(by show _ ≤ 10; omega), (by show _ ≤ 2000; omega)⟩ rfl hl.1 rfl (Nat.le_of_ble_eq_true rfl) dX2_describePhases_37 (fun u_17 H locs huu hP hD hS => ?_)
            obtain ⟨qu_17, u_17⟩ := u_17
            have eu_17 : u_17 = (f_J4_append_bf812 sbL x3) := huu
            have hP : va_P G.1 vwCl (fl [[(sbh0, .inr (1, [.ref qu_17, .int (0 : Int32), .int u_17.2.2.1, .int u_17.2.2.2]))], [(qu_17, .inl (G.2.1 2, u_17.1, .inl u_17.2.1))], wDo G dh0 dh1 dh2 dh3 dh4 d]) H := hP
            have hD : va_D A (fl [[(sbh0, .inr (1, [.ref qu_17, .int (0 : Int32), .int u_17.2.2.1, .int u_17.2.2.2]))], [(qu_17, .inl (G.2.1 2, u_17.1, .inl u_17.2.1))], wDo G dh0 dh1 dh2 dh3 dh4 d]) := hD
            refine W.eq (g2 := F0 m 40 ls [.ref sbh0]) rfl ?_
            have hF : f_X2_describePhases d dr sb = (lp_X2_describePhases_20' d dr sb u_11 n (x3 + 1) u_17) := by subst eu_17; exact hF
            have hok : (okl_lp_X2_describePhases_20' d dr sb u_11 n (x3 + 1) u_17) := by subst eu_17; exact hok
            refine lv_pop hx hb dX2_describePhases_40 rfl ?_
            refine lv_iinc (v := (x3 + 1)) (lv' := [(3, .int (x3 + 1)), (0, .ref dh0), (1, .int dr), (2, .ref sbh0)]) hx hb dX2_describePhases_41 hl (k := 0) rfl rfl (by decide) rfl (fun ls hl => ?_)
            refine lv_goto (tgt := 20) hx hb dX2_describePhases_44 (by decide) ?_
            exact ih (x3 + 1) u_17 qu_17 _ _ _ _ ls (lv_sub hl [0, 1, 2, 3] rfl) hP hD hS (by omega) (by omega) (upI_s (Int32.not_le.mp c_12) hu) hF hok
    exact L20 ((((8 : Int32)).toInt - ((0 : Int32)).toInt).toNat + 1) (0 : Int32) u_11 qu_11 _ _ _ _ ls (lv_sub hl [0, 1, 2, 3] rfl) hP hD hS (by decide +kernel) (by decide +kernel) (upI_i) hF hok
theorem dX2_describe_0 : decode cX2_describe 0 = .ok (.aload_n 2, 1) := by decide +kernel
theorem dX2_describe_1 : decode cX2_describe 1 = .ok (.ifnonnull 4, 3) := by decide +kernel
theorem dX2_describe_5 : decode cX2_describe 5 = .ok (.aload_n 0, 1) := by decide +kernel
theorem dX2_describe_6 : decode cX2_describe 6 = .ok (.iload_n 1, 1) := by decide +kernel
theorem dX2_describe_7 : decode cX2_describe 7 = .ok (.aload_n 2, 1) := by decide +kernel
theorem dX2_describe_8 : decode cX2_describe 8 = .ok (.invokevirtual 61, 3) := by decide +kernel
theorem u_499 : Cond.methodLink RX2 61 yX2_describePhases ∈ UW := uw 499 (by decide +kernel) rfl
theorem u_501 : Cond.instanceMethod yX2_describePhases ∈ UW := uw 501 (by decide +kernel) rfl
theorem u_2 : Cond.selects RX2 yX2_describePhases yX2_describePhases ∈ UW := uw 2 (by decide +kernel) rfl
theorem u_503 : Cond.code yX2_describePhases cX2_describePhases 4 none ∈ UW := uw 503 (by decide +kernel) rfl
theorem g_X2_61 : GoodIn UW (wsV RX2 61 RX2 yX2_describePhases (wsU yX2_describePhases cX2_describePhases 4 none)) := gV u_499 u_501 u_2 u_23 u_503
theorem hdv_X2_describePhases : yX2_describePhases.cls = RX2 ∧ yX2_describePhases.cls ≠ "java/lang/invoke/MethodHandle" ∧ yX2_describePhases.cls ≠ "java/lang/invoke/VarHandle" ∧ (parseMethodDescriptor yX2_describePhases.desc).map (fun d => d.parameters.length) = some 2 := by decide +kernel
theorem dX2_describe_11 : decode cX2_describe 11 = .ok (.aload_n 2, 1) := by decide +kernel
theorem dX2_describe_12 : decode cX2_describe 12 = .ok (.bipush 32, 2) := by decide +kernel
theorem dX2_describe_14 : decode cX2_describe 14 = .ok (.invokevirtual 65, 3) := by decide +kernel
theorem dX2_describe_17 : decode cX2_describe 17 = .ok (.aload_n 0, 1) := by decide +kernel
theorem dX2_describe_18 : decode cX2_describe 18 = .ok (.getfield 19, 3) := by decide +kernel
theorem dX2_describe_21 : decode cX2_describe 21 = .ok (.iload_n 1, 1) := by decide +kernel
theorem dX2_describe_22 : decode cX2_describe 22 = .ok (.invokestatic 47, 3) := by decide +kernel
theorem dX2_describe_25 : decode cX2_describe 25 = .ok (.invokevirtual 71, 3) := by decide +kernel
theorem dX2_describe_28 : decode cX2_describe 28 = .ok (.pop, 1) := by decide +kernel
theorem dX2_describe_29 : decode cX2_describe 29 = .ok (.aload_n 2, 1) := by decide +kernel
theorem dX2_describe_30 : decode cX2_describe 30 = .ok (.bipush 45, 2) := by decide +kernel
theorem dX2_describe_32 : decode cX2_describe 32 = .ok (.invokevirtual 65, 3) := by decide +kernel
theorem dX2_describe_35 : decode cX2_describe 35 = .ok (.aload_n 0, 1) := by decide +kernel
theorem dX2_describe_36 : decode cX2_describe 36 = .ok (.getfield 22, 3) := by decide +kernel
theorem dX2_describe_39 : decode cX2_describe 39 = .ok (.iload_n 1, 1) := by decide +kernel
theorem dX2_describe_40 : decode cX2_describe 40 = .ok (.invokestatic 47, 3) := by decide +kernel
theorem dX2_describe_43 : decode cX2_describe 43 = .ok (.invokevirtual 71, 3) := by decide +kernel
theorem dX2_describe_46 : decode cX2_describe 46 = .ok (.pop, 1) := by decide +kernel
theorem dX2_describe_47 : decode cX2_describe 47 = .ok (.aload_n 2, 1) := by decide +kernel
theorem dX2_describe_48 : decode cX2_describe 48 = .ok (.ldc 74, 2) := by decide +kernel
theorem dX2_describe_50 : decode cX2_describe 50 = .ok (.invokevirtual 76, 3) := by decide +kernel
theorem u_514 : Cond.methodLink RX2 76 yJ4_append_15ec4 ∈ UW := uw 514 (by decide +kernel) rfl
theorem u_200 : Cond.instanceMethod yJ4_append_15ec4 ∈ UW := uw 200 (by decide +kernel) rfl
theorem u_201 : Cond.selects RJ4 yJ4_append_15ec4 yJ4_append_15ec4 ∈ UW := uw 201 (by decide +kernel) rfl
theorem u_202 : Cond.code yJ4_append_15ec4 cJ4_append_15ec4 2 (some (.object "java/lang/StringBuilder")) ∈ UW := uw 202 (by decide +kernel) rfl
theorem g_X2_76 : GoodIn UW (wsV RX2 76 RJ4 yJ4_append_15ec4 (wsU yJ4_append_15ec4 cJ4_append_15ec4 2 (some (.object "java/lang/StringBuilder")))) := gV u_514 u_200 u_201 u_30 u_202
theorem hdv_J4_append_15ec4 : yJ4_append_15ec4.cls = RJ4 ∧ yJ4_append_15ec4.cls ≠ "java/lang/invoke/MethodHandle" ∧ yJ4_append_15ec4.cls ≠ "java/lang/invoke/VarHandle" ∧ (parseMethodDescriptor yJ4_append_15ec4.desc).map (fun d => d.parameters.length) = some 1 := by decide +kernel
theorem dX2_describe_53 : decode cX2_describe 53 = .ok (.aload_n 0, 1) := by decide +kernel
theorem dX2_describe_54 : decode cX2_describe 54 = .ok (.getfield 25, 3) := by decide +kernel
theorem dX2_describe_57 : decode cX2_describe 57 = .ok (.iload_n 1, 1) := by decide +kernel
theorem dX2_describe_58 : decode cX2_describe 58 = .ok (.invokestatic 47, 3) := by decide +kernel
theorem dX2_describe_61 : decode cX2_describe 61 = .ok (.invokevirtual 71, 3) := by decide +kernel
theorem dX2_describe_64 : decode cX2_describe 64 = .ok (.pop, 1) := by decide +kernel
theorem dX2_describe_65 : decode cX2_describe 65 = .ok (.return_, 1) := by decide +kernel
def f_X2_describe (d : DoV) (dr : Int32) (sb : SbV) : SbV := (let u_3 : SbV := (f_X2_describePhases d dr sb); (let u_6 : SbV := (f_J4_append_cf468 u_3 (32 : Int32)); (let u_10 : SbV := (f_J4_append_bf812 u_6 (f_X7_at 8 d.2.2.1 dr)); (let u_13 : SbV := (f_J4_append_cf468 u_10 (45 : Int32)); (let u_17 : SbV := (f_J4_append_bf812 u_13 (f_X7_at 8 d.2.2.2.1 dr)); (let u_20 : SbV := (f_J4_append_15ec4 u_17 16); (let u_24 : SbV := (f_J4_append_bf812 u_20 (f_X7_at 8 d.2.2.2.2 dr)); u_24)))))))
def ok_X2_describe (d : DoV) (dr : Int32) (sb : SbV) : Prop := (ok_X2_describePhases d dr sb ∧ (let u_3 : SbV := (f_X2_describePhases d dr sb); (ok_J4_append_cf468 u_3 (32 : Int32) ∧ (let u_6 : SbV := (f_J4_append_cf468 u_3 (32 : Int32)); (ok_J4_append_bf812 u_6 (f_X7_at 8 d.2.2.1 dr) ∧ (let u_10 : SbV := (f_J4_append_bf812 u_6 (f_X7_at 8 d.2.2.1 dr)); (ok_J4_append_cf468 u_10 (45 : Int32) ∧ (let u_13 : SbV := (f_J4_append_cf468 u_10 (45 : Int32)); (ok_J4_append_bf812 u_13 (f_X7_at 8 d.2.2.2.1 dr) ∧ (let u_17 : SbV := (f_J4_append_bf812 u_13 (f_X7_at 8 d.2.2.2.1 dr)); (ok_J4_append_15ec4 u_17 16 ∧ (let u_20 : SbV := (f_J4_append_15ec4 u_17 16); (ok_J4_append_bf812 u_20 (f_X7_at 8 d.2.2.2.2 dr) ∧ True)))))))))))))
set_option maxHeartbeats 4000000 in
set_option maxRecDepth 100000 in
theorem c_X2_describe (l : Launch) (G : GG) (dh0 : Nat) (dh1 : Nat) (dh2 : Nat) (dh3 : Nat) (dh4 : Nat) (sbh0 : Nat) (sbh1 : Nat) (sz : Nat) (d : DoV) (dr : Int32) (sb : SbV) (hok : ok_X2_describe d dr sb) : wMet l yX2_describe cX2_describe 3 none 8 16 3200 G (fl [wDo G dh0 dh1 dh2 dh3 dh4 d, [(sbh0, .inr (1, [.ref sbh1, .int (0 : Int32), .int sb.2.2.1, .int sb.2.2.2]))], [(sbh1, .inl (G.2.1 2, sb.1, .inl sb.2.1))]]) [.ref dh0, .int dr, .ref sbh0] sz (fun u : Nat × SbV => none) (fun u : Nat × SbV => u.2 = f_X2_describe d dr sb) (fun u : Nat × SbV => fl [wDo G dh0 dh1 dh2 dh3 dh4 d, [(sbh0, .inr (1, [.ref u.1, .int (0 : Int32), .int u.2.2.2.1, .int u.2.2.2.2]))], [(u.1, .inl (G.2.1 2, u.2.1, .inl u.2.2.1))]]) := by
  refine w_start (by decide +kernel) (Nat.le_of_ble_eq_true rfl) ?_
  intro p e s m below meth c A hx hb hr hml hts hown hlk hin hP hD hA hK hST ls hl
  have hS : va_S A s.heap s.heap [] := va_S.rf
  have hown : s.vm.findClass RX2 = some m.cls := hown
  have hl : lv_has ls 3 [(0, .ref dh0), (1, .int dr), (2, .ref sbh0)] := hl
  have hF : f_X2_describe d dr sb = (let u_3 : SbV := (f_X2_describePhases d dr sb); (let u_6 : SbV := (f_J4_append_cf468 u_3 (32 : Int32)); (let u_10 : SbV := (f_J4_append_bf812 u_6 (f_X7_at 8 d.2.2.1 dr)); (let u_13 : SbV := (f_J4_append_cf468 u_10 (45 : Int32)); (let u_17 : SbV := (f_J4_append_bf812 u_13 (f_X7_at 8 d.2.2.2.1 dr)); (let u_20 : SbV := (f_J4_append_15ec4 u_17 16); (let u_24 : SbV := (f_J4_append_bf812 u_20 (f_X7_at 8 d.2.2.2.2 dr)); u_24))))))) := rfl
  have hok : (ok_X2_describePhases d dr sb ∧ (let u_3 : SbV := (f_X2_describePhases d dr sb); (ok_J4_append_cf468 u_3 (32 : Int32) ∧ (let u_6 : SbV := (f_J4_append_cf468 u_3 (32 : Int32)); (ok_J4_append_bf812 u_6 (f_X7_at 8 d.2.2.1 dr) ∧ (let u_10 : SbV := (f_J4_append_bf812 u_6 (f_X7_at 8 d.2.2.1 dr)); (ok_J4_append_cf468 u_10 (45 : Int32) ∧ (let u_13 : SbV := (f_J4_append_cf468 u_10 (45 : Int32)); (ok_J4_append_bf812 u_13 (f_X7_at 8 d.2.2.2.1 dr) ∧ (let u_17 : SbV := (f_J4_append_bf812 u_13 (f_X7_at 8 d.2.2.2.1 dr)); (ok_J4_append_15ec4 u_17 16 ∧ (let u_20 : SbV := (f_J4_append_15ec4 u_17 16); (ok_J4_append_bf812 u_20 (f_X7_at 8 d.2.2.2.2 dr) ∧ True))))))))))))) := hok
  refine lv_aload_n hx hb dX2_describe_0 rfl (lv_at hl 2 rfl) ?_
  refine lv_ifnonnull (tgt := 5) hx hb dX2_describe_1 (by decide) ?_
  refine lv_aload_n hx hb dX2_describe_5 rfl (lv_at hl 0 rfl) ?_
  refine lv_iload_n hx hb dX2_describe_6 rfl (lv_at hl 1 rfl) ?_
  refine lv_aload_n hx hb dX2_describe_7 rfl (lv_at hl 2 rfl) ?_
  have k_1 := hok.1
  have hok := hok.2
  refine w_V (own := RX2) (cs := [wDo G dh0 dh1 dh2 dh3 dh4 d, [(sbh0, .inr (1, [.ref sbh1, .int (0 : Int32), .int sb.2.2.1, .int sb.2.2.2]))], [(sbh1, .inl (G.2.1 2, sb.1, .inl sb.2.1))]]) (rs := []) (As := [.int dr, .ref sbh0]) (rest := []) (c_X2_describePhases l G dh0 dh1 dh2 dh3 dh4 sbh0 sbh1 s.heap.size d dr sb k_1) ⟨hx, hb, hml, hown, hts⟩ g_X2_61 hdv_X2_describePhases hK hST hS hP hD hA [0, 1, 2] [] rfl rfl rfl (k0 := 0) rfl rfl rfl ⟨Nat.le_of_ble_eq_true rfl, Nat.le_of_ble_eq_true rfl⟩ ⟨Nat.le_of_ble_eq_true rfl, Nat.le_of_ble_eq_true rfl⟩ rfl hl.1 rfl (Nat.le_of_ble_eq_true rfl) dX2_describe_8 (fun u_3 H locs huu hP hD hS => ?_)
  obtain ⟨qu_3, u_3⟩ := u_3
  have eu_3 : u_3 = (f_X2_describePhases d dr sb) := huu
  have hP : va_P G.1 vwCl (fl [wDo G dh0 dh1 dh2 dh3 dh4 d, [(sbh0, .inr (1, [.ref qu_3, .int (0 : Int32), .int u_3.2.2.1, .int u_3.2.2.2]))], [(qu_3, .inl (G.2.1 2, u_3.1, .inl u_3.2.1))]]) H := hP
  have hD : va_D A (fl [wDo G dh0 dh1 dh2 dh3 dh4 d, [(sbh0, .inr (1, [.ref qu_3, .int (0 : Int32), .int u_3.2.2.1, .int u_3.2.2.2]))], [(qu_3, .inl (G.2.1 2, u_3.1, .inl u_3.2.1))]]) := hD
  refine W.eq (g2 := F0 m 11 ls []) rfl ?_
  have hF : f_X2_describe d dr sb = (let u_6 : SbV := (f_J4_append_cf468 u_3 (32 : Int32)); (let u_10 : SbV := (f_J4_append_bf812 u_6 (f_X7_at 8 d.2.2.1 dr)); (let u_13 : SbV := (f_J4_append_cf468 u_10 (45 : Int32)); (let u_17 : SbV := (f_J4_append_bf812 u_13 (f_X7_at 8 d.2.2.2.1 dr)); (let u_20 : SbV := (f_J4_append_15ec4 u_17 16); (let u_24 : SbV := (f_J4_append_bf812 u_20 (f_X7_at 8 d.2.2.2.2 dr)); u_24)))))) := by subst eu_3; exact hF
  have hok : (ok_J4_append_cf468 u_3 (32 : Int32) ∧ (let u_6 : SbV := (f_J4_append_cf468 u_3 (32 : Int32)); (ok_J4_append_bf812 u_6 (f_X7_at 8 d.2.2.1 dr) ∧ (let u_10 : SbV := (f_J4_append_bf812 u_6 (f_X7_at 8 d.2.2.1 dr)); (ok_J4_append_cf468 u_10 (45 : Int32) ∧ (let u_13 : SbV := (f_J4_append_cf468 u_10 (45 : Int32)); (ok_J4_append_bf812 u_13 (f_X7_at 8 d.2.2.2.1 dr) ∧ (let u_17 : SbV := (f_J4_append_bf812 u_13 (f_X7_at 8 d.2.2.2.1 dr)); (ok_J4_append_15ec4 u_17 16 ∧ (let u_20 : SbV := (f_J4_append_15ec4 u_17 16); (ok_J4_append_bf812 u_20 (f_X7_at 8 d.2.2.2.2 dr) ∧ True))))))))))) := by subst eu_3; exact hok
  refine lv_aload_n hx hb dX2_describe_11 rfl (lv_at hl 2 rfl) ?_
  refine lv_bipush (v := (32 : Int32)) hx hb dX2_describe_12 (by decide) ?_
  have k_4 := hok.1
  have hok := hok.2
  refine w_V (own := RX2) (cs := [[(sbh0, .inr (1, [.ref qu_3, .int (0 : Int32), .int u_3.2.2.1, .int u_3.2.2.2]))], [(qu_3, .inl (G.2.1 2, u_3.1, .inl u_3.2.1))]]) (rs := [wDo G dh0 dh1 dh2 dh3 dh4 d]) (As := [.int (32 : Int32)]) (rest := []) (c_J4_append_cf468 l G sbh0 qu_3 H.size u_3 (32 : Int32) k_4) ⟨hx, hb, hml, hown, hts⟩ g_X2_65 hdv_J4_append_cf468 hK hST hS hP hD hA [1, 2] [0] rfl rfl rfl (k0 := 0) rfl rfl rfl ⟨Nat.le_of_ble_eq_true rfl, Nat.le_of_ble_eq_true rfl⟩ ⟨Nat.le_of_ble_eq_true rfl, Nat.le_of_ble_eq_true rfl⟩ rfl hl.1 rfl (Nat.le_of_ble_eq_true rfl) dX2_describe_14 (fun u_6 H locs huu hP hD hS => ?_)
  obtain ⟨qu_6, u_6⟩ := u_6
  have eu_6 : u_6 = (f_J4_append_cf468 u_3 (32 : Int32)) := huu
  have hP : va_P G.1 vwCl (fl [[(sbh0, .inr (1, [.ref qu_6, .int (0 : Int32), .int u_6.2.2.1, .int u_6.2.2.2]))], [(qu_6, .inl (G.2.1 2, u_6.1, .inl u_6.2.1))], wDo G dh0 dh1 dh2 dh3 dh4 d]) H := hP
  have hD : va_D A (fl [[(sbh0, .inr (1, [.ref qu_6, .int (0 : Int32), .int u_6.2.2.1, .int u_6.2.2.2]))], [(qu_6, .inl (G.2.1 2, u_6.1, .inl u_6.2.1))], wDo G dh0 dh1 dh2 dh3 dh4 d]) := hD
  refine W.eq (g2 := F0 m 17 ls [.ref sbh0]) rfl ?_
  have hF : f_X2_describe d dr sb = (let u_10 : SbV := (f_J4_append_bf812 u_6 (f_X7_at 8 d.2.2.1 dr)); (let u_13 : SbV := (f_J4_append_cf468 u_10 (45 : Int32)); (let u_17 : SbV := (f_J4_append_bf812 u_13 (f_X7_at 8 d.2.2.2.1 dr)); (let u_20 : SbV := (f_J4_append_15ec4 u_17 16); (let u_24 : SbV := (f_J4_append_bf812 u_20 (f_X7_at 8 d.2.2.2.2 dr)); u_24))))) := by subst eu_6; exact hF
  have hok : (ok_J4_append_bf812 u_6 (f_X7_at 8 d.2.2.1 dr) ∧ (let u_10 : SbV := (f_J4_append_bf812 u_6 (f_X7_at 8 d.2.2.1 dr)); (ok_J4_append_cf468 u_10 (45 : Int32) ∧ (let u_13 : SbV := (f_J4_append_cf468 u_10 (45 : Int32)); (ok_J4_append_bf812 u_13 (f_X7_at 8 d.2.2.2.1 dr) ∧ (let u_17 : SbV := (f_J4_append_bf812 u_13 (f_X7_at 8 d.2.2.2.1 dr)); (ok_J4_append_15ec4 u_17 16 ∧ (let u_20 : SbV := (f_J4_append_15ec4 u_17 16); (ok_J4_append_bf812 u_20 (f_X7_at 8 d.2.2.2.2 dr) ∧ True))))))))) := by subst eu_6; exact hok
  refine lv_aload_n hx hb dX2_describe_17 rfl (lv_at hl 0 rfl) ?_
  refine va_get (D := G.1) (ci := 6) (v := .ref dh2) (C := RX2) (T := TX2) (N := 5) hx hb hts uws_X2 hown hK hP 2 rfl rfl 2 (by decide) (hts _ u_944) (fun _ h9 => h9) rfl dX2_describe_18 ?_
  refine lv_iload_n hx hb dX2_describe_21 rfl (lv_at hl 1 rfl) ?_
  refine r_S (own := RX2) (v := (some (.int (f_X7_at 8 d.2.2.1 dr)))) (st1 := [.int (f_X7_at 8 d.2.2.1 dr), .ref sbh0]) (As := [.ref dh2, .int dr]) (rest := [.ref sbh0]) (c_X7_at l G dh2 8 d.2.2.1 dr (by decide)) ⟨hx, hb, hml, hown, hts⟩ g_X2_47 hds_X7_at hK hST hS hP [4] rfl ⟨Nat.le_of_ble_eq_true rfl, Nat.le_of_ble_eq_true rfl⟩ ⟨Nat.le_of_ble_eq_true rfl, Nat.le_of_ble_eq_true rfl⟩ rfl hl.1 rfl (Nat.le_of_ble_eq_true rfl) dX2_describe_22 rfl (fun b_7 => ?_)
  have k_8 := hok.1
  have hok := hok.2
  refine w_V (own := RX2) (cs := [[(sbh0, .inr (1, [.ref qu_6, .int (0 : Int32), .int u_6.2.2.1, .int u_6.2.2.2]))], [(qu_6, .inl (G.2.1 2, u_6.1, .inl u_6.2.1))]]) (rs := [wDo G dh0 dh1 dh2 dh3 dh4 d]) (As := [.int (f_X7_at 8 d.2.2.1 dr)]) (rest := []) (c_J4_append_bf812 l G sbh0 qu_6 H.size u_6 (f_X7_at 8 d.2.2.1 dr) k_8) ⟨hx, hb, hml, hown, hts⟩ g_X2_71 hdv_J4_append_bf812 hK hST hS hP hD hA [0, 1] [2] rfl rfl rfl (k0 := 0) rfl rfl rfl ⟨Nat.le_of_ble_eq_true rfl, Nat.le_of_ble_eq_true rfl⟩ ⟨Nat.le_of_ble_eq_true rfl, Nat.le_of_ble_eq_true rfl⟩ rfl hl.1 rfl (Nat.le_of_ble_eq_true rfl) dX2_describe_25 (fun u_10 H locs huu hP hD hS => ?_)
  obtain ⟨qu_10, u_10⟩ := u_10
  have eu_10 : u_10 = (f_J4_append_bf812 u_6 (f_X7_at 8 d.2.2.1 dr)) := huu
  have hP : va_P G.1 vwCl (fl [[(sbh0, .inr (1, [.ref qu_10, .int (0 : Int32), .int u_10.2.2.1, .int u_10.2.2.2]))], [(qu_10, .inl (G.2.1 2, u_10.1, .inl u_10.2.1))], wDo G dh0 dh1 dh2 dh3 dh4 d]) H := hP
  have hD : va_D A (fl [[(sbh0, .inr (1, [.ref qu_10, .int (0 : Int32), .int u_10.2.2.1, .int u_10.2.2.2]))], [(qu_10, .inl (G.2.1 2, u_10.1, .inl u_10.2.1))], wDo G dh0 dh1 dh2 dh3 dh4 d]) := hD
  refine W.eq (g2 := F0 m 28 ls [.ref sbh0]) rfl ?_
  have hF : f_X2_describe d dr sb = (let u_13 : SbV := (f_J4_append_cf468 u_10 (45 : Int32)); (let u_17 : SbV := (f_J4_append_bf812 u_13 (f_X7_at 8 d.2.2.2.1 dr)); (let u_20 : SbV := (f_J4_append_15ec4 u_17 16); (let u_24 : SbV := (f_J4_append_bf812 u_20 (f_X7_at 8 d.2.2.2.2 dr)); u_24)))) := by subst eu_10; exact hF
  have hok : (ok_J4_append_cf468 u_10 (45 : Int32) ∧ (let u_13 : SbV := (f_J4_append_cf468 u_10 (45 : Int32)); (ok_J4_append_bf812 u_13 (f_X7_at 8 d.2.2.2.1 dr) ∧ (let u_17 : SbV := (f_J4_append_bf812 u_13 (f_X7_at 8 d.2.2.2.1 dr)); (ok_J4_append_15ec4 u_17 16 ∧ (let u_20 : SbV := (f_J4_append_15ec4 u_17 16); (ok_J4_append_bf812 u_20 (f_X7_at 8 d.2.2.2.2 dr) ∧ True))))))) := by subst eu_10; exact hok
  refine lv_pop hx hb dX2_describe_28 rfl ?_
  refine lv_aload_n hx hb dX2_describe_29 rfl (lv_at hl 2 rfl) ?_
  refine lv_bipush (v := (45 : Int32)) hx hb dX2_describe_30 (by decide) ?_
  have k_11 := hok.1
  have hok := hok.2
  refine w_V (own := RX2) (cs := [[(sbh0, .inr (1, [.ref qu_10, .int (0 : Int32), .int u_10.2.2.1, .int u_10.2.2.2]))], [(qu_10, .inl (G.2.1 2, u_10.1, .inl u_10.2.1))]]) (rs := [wDo G dh0 dh1 dh2 dh3 dh4 d]) (As := [.int (45 : Int32)]) (rest := []) (c_J4_append_cf468 l G sbh0 qu_10 H.size u_10 (45 : Int32) k_11) ⟨hx, hb, hml, hown, hts⟩ g_X2_65 hdv_J4_append_cf468 hK hST hS hP hD hA [0, 1] [2] rfl rfl rfl (k0 := 0) rfl rfl rfl ⟨Nat.le_of_ble_eq_true rfl, Nat.le_of_ble_eq_true rfl⟩ ⟨Nat.le_of_ble_eq_true rfl, Nat.le_of_ble_eq_true rfl⟩ rfl hl.1 rfl (Nat.le_of_ble_eq_true rfl) dX2_describe_32 (fun u_13 H locs huu hP hD hS => ?_)
  obtain ⟨qu_13, u_13⟩ := u_13
  have eu_13 : u_13 = (f_J4_append_cf468 u_10 (45 : Int32)) := huu
  have hP : va_P G.1 vwCl (fl [[(sbh0, .inr (1, [.ref qu_13, .int (0 : Int32), .int u_13.2.2.1, .int u_13.2.2.2]))], [(qu_13, .inl (G.2.1 2, u_13.1, .inl u_13.2.1))], wDo G dh0 dh1 dh2 dh3 dh4 d]) H := hP
  have hD : va_D A (fl [[(sbh0, .inr (1, [.ref qu_13, .int (0 : Int32), .int u_13.2.2.1, .int u_13.2.2.2]))], [(qu_13, .inl (G.2.1 2, u_13.1, .inl u_13.2.1))], wDo G dh0 dh1 dh2 dh3 dh4 d]) := hD
  refine W.eq (g2 := F0 m 35 ls [.ref sbh0]) rfl ?_
  have hF : f_X2_describe d dr sb = (let u_17 : SbV := (f_J4_append_bf812 u_13 (f_X7_at 8 d.2.2.2.1 dr)); (let u_20 : SbV := (f_J4_append_15ec4 u_17 16); (let u_24 : SbV := (f_J4_append_bf812 u_20 (f_X7_at 8 d.2.2.2.2 dr)); u_24))) := by subst eu_13; exact hF
  have hok : (ok_J4_append_bf812 u_13 (f_X7_at 8 d.2.2.2.1 dr) ∧ (let u_17 : SbV := (f_J4_append_bf812 u_13 (f_X7_at 8 d.2.2.2.1 dr)); (ok_J4_append_15ec4 u_17 16 ∧ (let u_20 : SbV := (f_J4_append_15ec4 u_17 16); (ok_J4_append_bf812 u_20 (f_X7_at 8 d.2.2.2.2 dr) ∧ True))))) := by subst eu_13; exact hok
  refine lv_aload_n hx hb dX2_describe_35 rfl (lv_at hl 0 rfl) ?_
  refine va_get (D := G.1) (ci := 6) (v := .ref dh3) (C := RX2) (T := TX2) (N := 5) hx hb hts uws_X2 hown hK hP 2 rfl rfl 3 (by decide) (hts _ u_945) (fun _ h9 => h9) rfl dX2_describe_36 ?_
  refine lv_iload_n hx hb dX2_describe_39 rfl (lv_at hl 1 rfl) ?_
  refine r_S (own := RX2) (v := (some (.int (f_X7_at 8 d.2.2.2.1 dr)))) (st1 := [.int (f_X7_at 8 d.2.2.2.1 dr), .ref sbh0]) (As := [.ref dh3, .int dr]) (rest := [.ref sbh0]) (c_X7_at l G dh3 8 d.2.2.2.1 dr (by decide)) ⟨hx, hb, hml, hown, hts⟩ g_X2_47 hds_X7_at hK hST hS hP [5] rfl ⟨Nat.le_of_ble_eq_true rfl, Nat.le_of_ble_eq_true rfl⟩ ⟨Nat.le_of_ble_eq_true rfl, Nat.le_of_ble_eq_true rfl⟩ rfl hl.1 rfl (Nat.le_of_ble_eq_true rfl) dX2_describe_40 rfl (fun b_14 => ?_)
  have k_15 := hok.1
  have hok := hok.2
  refine w_V (own := RX2) (cs := [[(sbh0, .inr (1, [.ref qu_13, .int (0 : Int32), .int u_13.2.2.1, .int u_13.2.2.2]))], [(qu_13, .inl (G.2.1 2, u_13.1, .inl u_13.2.1))]]) (rs := [wDo G dh0 dh1 dh2 dh3 dh4 d]) (As := [.int (f_X7_at 8 d.2.2.2.1 dr)]) (rest := []) (c_J4_append_bf812 l G sbh0 qu_13 H.size u_13 (f_X7_at 8 d.2.2.2.1 dr) k_15) ⟨hx, hb, hml, hown, hts⟩ g_X2_71 hdv_J4_append_bf812 hK hST hS hP hD hA [0, 1] [2] rfl rfl rfl (k0 := 0) rfl rfl rfl ⟨Nat.le_of_ble_eq_true rfl, Nat.le_of_ble_eq_true rfl⟩ ⟨Nat.le_of_ble_eq_true rfl, Nat.le_of_ble_eq_true rfl⟩ rfl hl.1 rfl (Nat.le_of_ble_eq_true rfl) dX2_describe_43 (fun u_17 H locs huu hP hD hS => ?_)
  obtain ⟨qu_17, u_17⟩ := u_17
  have eu_17 : u_17 = (f_J4_append_bf812 u_13 (f_X7_at 8 d.2.2.2.1 dr)) := huu
  have hP : va_P G.1 vwCl (fl [[(sbh0, .inr (1, [.ref qu_17, .int (0 : Int32), .int u_17.2.2.1, .int u_17.2.2.2]))], [(qu_17, .inl (G.2.1 2, u_17.1, .inl u_17.2.1))], wDo G dh0 dh1 dh2 dh3 dh4 d]) H := hP
  have hD : va_D A (fl [[(sbh0, .inr (1, [.ref qu_17, .int (0 : Int32), .int u_17.2.2.1, .int u_17.2.2.2]))], [(qu_17, .inl (G.2.1 2, u_17.1, .inl u_17.2.1))], wDo G dh0 dh1 dh2 dh3 dh4 d]) := hD
  refine W.eq (g2 := F0 m 46 ls [.ref sbh0]) rfl ?_
  have hF : f_X2_describe d dr sb = (let u_20 : SbV := (f_J4_append_15ec4 u_17 16); (let u_24 : SbV := (f_J4_append_bf812 u_20 (f_X7_at 8 d.2.2.2.2 dr)); u_24)) := by subst eu_17; exact hF
  have hok : (ok_J4_append_15ec4 u_17 16 ∧ (let u_20 : SbV := (f_J4_append_15ec4 u_17 16); (ok_J4_append_bf812 u_20 (f_X7_at 8 d.2.2.2.2 dr) ∧ True))) := by subst eu_17; exact hok
  refine lv_pop hx hb dX2_describe_46 rfl ?_
  refine lv_aload_n hx hb dX2_describe_47 rfl (lv_at hl 2 rfl) ?_
  refine va_ldcS (own := RX2) (tx := " k") (q := G.2.2.1 (10 + 16)) hx hb hown (hST.str (by decide +kernel)) dX2_describe_48 ?_
  have k_18 := hok.1
  have hok := hok.2
  refine w_V (own := RX2) (cs := [[(sbh0, .inr (1, [.ref qu_17, .int (0 : Int32), .int u_17.2.2.1, .int u_17.2.2.2]))], [(qu_17, .inl (G.2.1 2, u_17.1, .inl u_17.2.1))]]) (rs := [wDo G dh0 dh1 dh2 dh3 dh4 d]) (As := [.ref (G.2.2.1 (10 + 16))]) (rest := []) (c_J4_append_15ec4 l G sbh0 qu_17 H.size u_17 16 k_18 (by decide)) ⟨hx, hb, hml, hown, hts⟩ g_X2_76 hdv_J4_append_15ec4 hK hST hS hP hD hA [0, 1] [2] rfl rfl rfl (k0 := 0) rfl rfl rfl ⟨Nat.le_of_ble_eq_true rfl, Nat.le_of_ble_eq_true rfl⟩ ⟨Nat.le_of_ble_eq_true rfl, Nat.le_of_ble_eq_true rfl⟩ rfl hl.1 rfl (Nat.le_of_ble_eq_true rfl) dX2_describe_50 (fun u_20 H locs huu hP hD hS => ?_)
  obtain ⟨qu_20, u_20⟩ := u_20
  have eu_20 : u_20 = (f_J4_append_15ec4 u_17 16) := huu
  have hP : va_P G.1 vwCl (fl [[(sbh0, .inr (1, [.ref qu_20, .int (0 : Int32), .int u_20.2.2.1, .int u_20.2.2.2]))], [(qu_20, .inl (G.2.1 2, u_20.1, .inl u_20.2.1))], wDo G dh0 dh1 dh2 dh3 dh4 d]) H := hP
  have hD : va_D A (fl [[(sbh0, .inr (1, [.ref qu_20, .int (0 : Int32), .int u_20.2.2.1, .int u_20.2.2.2]))], [(qu_20, .inl (G.2.1 2, u_20.1, .inl u_20.2.1))], wDo G dh0 dh1 dh2 dh3 dh4 d]) := hD
  refine W.eq (g2 := F0 m 53 ls [.ref sbh0]) rfl ?_
  have hF : f_X2_describe d dr sb = (let u_24 : SbV := (f_J4_append_bf812 u_20 (f_X7_at 8 d.2.2.2.2 dr)); u_24) := by subst eu_20; exact hF
  have hok : (ok_J4_append_bf812 u_20 (f_X7_at 8 d.2.2.2.2 dr) ∧ True) := by subst eu_20; exact hok
  refine lv_aload_n hx hb dX2_describe_53 rfl (lv_at hl 0 rfl) ?_
  refine va_get (D := G.1) (ci := 6) (v := .ref dh4) (C := RX2) (T := TX2) (N := 5) hx hb hts uws_X2 hown hK hP 2 rfl rfl 4 (by decide) (hts _ u_946) (fun _ h9 => h9) rfl dX2_describe_54 ?_
  refine lv_iload_n hx hb dX2_describe_57 rfl (lv_at hl 1 rfl) ?_
  refine r_S (own := RX2) (v := (some (.int (f_X7_at 8 d.2.2.2.2 dr)))) (st1 := [.int (f_X7_at 8 d.2.2.2.2 dr), .ref sbh0]) (As := [.ref dh4, .int dr]) (rest := [.ref sbh0]) (c_X7_at l G dh4 8 d.2.2.2.2 dr (by decide)) ⟨hx, hb, hml, hown, hts⟩ g_X2_47 hds_X7_at hK hST hS hP [6] rfl ⟨Nat.le_of_ble_eq_true rfl, Nat.le_of_ble_eq_true rfl⟩ ⟨Nat.le_of_ble_eq_true rfl, Nat.le_of_ble_eq_true rfl⟩ rfl hl.1 rfl (Nat.le_of_ble_eq_true rfl) dX2_describe_58 rfl (fun b_21 => ?_)
  have k_22 := hok.1
  have hok := hok.2
  refine w_V (own := RX2) (cs := [[(sbh0, .inr (1, [.ref qu_20, .int (0 : Int32), .int u_20.2.2.1, .int u_20.2.2.2]))], [(qu_20, .inl (G.2.1 2, u_20.1, .inl u_20.2.1))]]) (rs := [wDo G dh0 dh1 dh2 dh3 dh4 d]) (As := [.int (f_X7_at 8 d.2.2.2.2 dr)]) (rest := []) (c_J4_append_bf812 l G sbh0 qu_20 H.size u_20 (f_X7_at 8 d.2.2.2.2 dr) k_22) ⟨hx, hb, hml, hown, hts⟩ g_X2_71 hdv_J4_append_bf812 hK hST hS hP hD hA [0, 1] [2] rfl rfl rfl (k0 := 0) rfl rfl rfl ⟨Nat.le_of_ble_eq_true rfl, Nat.le_of_ble_eq_true rfl⟩ ⟨Nat.le_of_ble_eq_true rfl, Nat.le_of_ble_eq_true rfl⟩ rfl hl.1 rfl (Nat.le_of_ble_eq_true rfl) dX2_describe_61 (fun u_24 H locs huu hP hD hS => ?_)
  obtain ⟨qu_24, u_24⟩ := u_24
  have eu_24 : u_24 = (f_J4_append_bf812 u_20 (f_X7_at 8 d.2.2.2.2 dr)) := huu
  have hP : va_P G.1 vwCl (fl [[(sbh0, .inr (1, [.ref qu_24, .int (0 : Int32), .int u_24.2.2.1, .int u_24.2.2.2]))], [(qu_24, .inl (G.2.1 2, u_24.1, .inl u_24.2.1))], wDo G dh0 dh1 dh2 dh3 dh4 d]) H := hP
  have hD : va_D A (fl [[(sbh0, .inr (1, [.ref qu_24, .int (0 : Int32), .int u_24.2.2.1, .int u_24.2.2.2]))], [(qu_24, .inl (G.2.1 2, u_24.1, .inl u_24.2.1))], wDo G dh0 dh1 dh2 dh3 dh4 d]) := hD
  refine W.eq (g2 := F0 m 64 ls [.ref sbh0]) rfl ?_
  have hF : f_X2_describe d dr sb = u_24 := by subst eu_24; exact hF
  refine lv_pop hx hb dX2_describe_64 rfl ?_
  have hP := fl_sub (cs := [wDo G dh0 dh1 dh2 dh3 dh4 d, [(sbh0, .inr (1, [.ref qu_24, .int (0 : Int32), .int u_24.2.2.1, .int u_24.2.2.2]))], [(qu_24, .inl (G.2.1 2, u_24.1, .inl u_24.2.1))]]) [2, 0, 1] rfl hP
  have hD := fl_subD (cs := [wDo G dh0 dh1 dh2 dh3 dh4 d, [(sbh0, .inr (1, [.ref qu_24, .int (0 : Int32), .int u_24.2.2.1, .int u_24.2.2.2]))], [(qu_24, .inl (G.2.1 2, u_24.1, .inl u_24.2.1))]]) [2, 0, 1] rfl rfl hD
  exact w_retV (u := (qu_24, u_24)) hx hb hr hlk hS rfl hF.symm hP hD (Nat.le_of_ble_eq_true rfl) (Nat.le_of_ble_eq_true rfl) dX2_describe_65
theorem dX6_length_0 : decode cX6_length 0 = .ok (.aload_n 0, 1) := by decide +kernel
theorem dX6_length_1 : decode cX6_length 1 = .ok (.getfield 27, 3) := by decide +kernel
theorem uws_X6 : ∀ w ∈ wsX60, w ∈ UW := uw_all [1084, 1086, 1088, 1090, 1092] (by decide +kernel) (by decide +kernel)
theorem u_1083 : Cond.fieldLink RX6 27 "MoonlitDoors$Program" "text" "Ljava/lang/StringBuilder;" ∈ UW := uw 1083 (by decide +kernel) rfl
theorem dX6_length_4 : decode cX6_length 4 = .ok (.invokevirtual 31, 3) := by decide +kernel
theorem u_1291 : Cond.methodLink RX6 31 yJ4_length_8abf5 ∈ UW := uw 1291 (by decide +kernel) rfl
theorem u_366 : Cond.instanceMethod yJ4_length_8abf5 ∈ UW := uw 366 (by decide +kernel) rfl
theorem u_1599 : Cond.selects RJ4 yJ4_length_8abf5 yJ4_length_8abf5 ∈ UW := uw 1599 (by decide +kernel) rfl
theorem u_367 : Cond.code yJ4_length_8abf5 cJ4_length_8abf5 1 (some .int) ∈ UW := uw 367 (by decide +kernel) rfl
theorem g_X6_31 : GoodIn UW (wsV RX6 31 RJ4 yJ4_length_8abf5 (wsU yJ4_length_8abf5 cJ4_length_8abf5 1 (some .int))) := gV u_1291 u_366 u_1599 u_30 u_367
theorem hdv_J4_length_8abf5 : yJ4_length_8abf5.cls = RJ4 ∧ yJ4_length_8abf5.cls ≠ "java/lang/invoke/MethodHandle" ∧ yJ4_length_8abf5.cls ≠ "java/lang/invoke/VarHandle" ∧ (parseMethodDescriptor yJ4_length_8abf5.desc).map (fun d => d.parameters.length) = some 0 := by decide +kernel
theorem dX6_length_7 : decode cX6_length 7 = .ok (.ireturn, 1) := by decide +kernel
def f_X6_length (q : PrV) (sb : SbV) : Int32 := (f_J4_length_8abf5 sb)
set_option maxHeartbeats 4000000 in
set_option maxRecDepth 100000 in
theorem c_X6_length (l : Launch) (G : GG) (qh0 : Nat) (sbh0 : Nat) (sbh1 : Nat) (q : PrV) (sb : SbV) : rMet l yX6_length cX6_length 1 (some .int) 3 G (fl [[(qh0, .inr (9, [.int q.1, .int q.2.1, .int q.2.2.1, .int q.2.2.2, .ref sbh0]))], [(sbh0, .inr (1, [.ref sbh1, .int (0 : Int32), .int sb.2.2.1, .int sb.2.2.2]))], [(sbh1, .inl (G.2.1 2, sb.1, .inl sb.2.1))]]) [.ref qh0] (some (.int (f_X6_length q sb))) (True) := by
  refine r_start (by decide +kernel) (Nat.le_of_ble_eq_true rfl) ?_
  intro p e s m below meth c hx hb hr hml hts hown hlk hP hK hST ls hl
  have hS : va_S (fun _ => False) s.heap s.heap [] := va_S.rf
  have hown : s.vm.findClass RX6 = some m.cls := hown
  have hl : lv_has ls 1 [(0, .ref qh0)] := hl
  have hF : f_X6_length q sb = (f_J4_length_8abf5 sb) := rfl
  refine lv_aload_n hx hb dX6_length_0 rfl (lv_at hl 0 rfl) ?_
  refine va_get (D := G.1) (ci := 9) (v := .ref sbh0) (C := RX6) (T := TX6) (N := 5) hx hb hts uws_X6 hown hK hP 0 rfl rfl 4 (by decide) (hts _ u_1083) (fun _ h9 => h9) rfl dX6_length_1 ?_
  refine r_V (own := RX6) (v := (some (.int (f_J4_length_8abf5 sb)))) (st1 := [.int (f_J4_length_8abf5 sb)]) (As := []) (rest := []) (c_J4_length_8abf5 l G sbh0 sbh1 sb) ⟨hx, hb, hml, hown, hts⟩ g_X6_31 hdv_J4_length_8abf5 hK hST hS hP [1, 2] rfl (k0 := 0) rfl rfl rfl ⟨Nat.le_of_ble_eq_true rfl, Nat.le_of_ble_eq_true rfl⟩ ⟨Nat.le_of_ble_eq_true rfl, Nat.le_of_ble_eq_true rfl⟩ rfl hl.1 rfl (Nat.le_of_ble_eq_true rfl) dX6_length_4 rfl (fun b_1 => ?_)
  exact r_ret hx hb hr hlk rfl (by rw [hF]) trivial dX6_length_7
theorem dX6_signAt_0 : decode cX6_signAt 0 = .ok (.iload_n 1, 1) := by decide +kernel
theorem dX6_signAt_1 : decode cX6_signAt 1 = .ok (.ifCond .lt 25, 3) := by decide +kernel
theorem dX6_signAt_26 : decode cX6_signAt 26 = .ok (.iconst 0, 1) := by decide +kernel
theorem dX6_signAt_27 : decode cX6_signAt 27 = .ok (.ireturn, 1) := by decide +kernel
theorem dX6_signAt_4 : decode cX6_signAt 4 = .ok (.iload_n 1, 1) := by decide +kernel
theorem dX6_signAt_5 : decode cX6_signAt 5 = .ok (.aload_n 0, 1) := by decide +kernel
theorem dX6_signAt_6 : decode cX6_signAt 6 = .ok (.getfield 27, 3) := by decide +kernel
theorem dX6_signAt_9 : decode cX6_signAt 9 = .ok (.invokevirtual 31, 3) := by decide +kernel
theorem dX6_signAt_12 : decode cX6_signAt 12 = .ok (.if_icmp .ge 14, 3) := by decide +kernel
theorem dX6_signAt_15 : decode cX6_signAt 15 = .ok (.aload_n 0, 1) := by decide +kernel
theorem dX6_signAt_16 : decode cX6_signAt 16 = .ok (.getfield 27, 3) := by decide +kernel
theorem dX6_signAt_19 : decode cX6_signAt 19 = .ok (.iload_n 1, 1) := by decide +kernel
theorem dX6_signAt_20 : decode cX6_signAt 20 = .ok (.invokevirtual 90, 3) := by decide +kernel
theorem u_1342 : Cond.methodLink RX6 90 yJ4_charAt_5068e ∈ UW := uw 1342 (by decide +kernel) rfl
theorem u_1343 : Cond.instanceMethod yJ4_charAt_5068e ∈ UW := uw 1343 (by decide +kernel) rfl
theorem u_1344 : Cond.selects RJ4 yJ4_charAt_5068e yJ4_charAt_5068e ∈ UW := uw 1344 (by decide +kernel) rfl
theorem u_1345 : Cond.code yJ4_charAt_5068e cJ4_charAt_5068e 2 (some .char) ∈ UW := uw 1345 (by decide +kernel) rfl
theorem g_X6_90 : GoodIn UW (wsV RX6 90 RJ4 yJ4_charAt_5068e (wsU yJ4_charAt_5068e cJ4_charAt_5068e 2 (some .char))) := gV u_1342 u_1343 u_1344 u_30 u_1345
theorem hdv_J4_charAt_5068e : yJ4_charAt_5068e.cls = RJ4 ∧ yJ4_charAt_5068e.cls ≠ "java/lang/invoke/MethodHandle" ∧ yJ4_charAt_5068e.cls ≠ "java/lang/invoke/VarHandle" ∧ (parseMethodDescriptor yJ4_charAt_5068e.desc).map (fun d => d.parameters.length) = some 1 := by decide +kernel
theorem dX6_signAt_23 : decode cX6_signAt 23 = .ok (.goto 4, 3) := by decide +kernel
def f_X6_signAt (q : PrV) (sb : SbV) (x : Int32) : Int32 := (if x < (0 : Int32) then (0 : Int32) else (if (f_J4_length_8abf5 sb) ≤ x then (0 : Int32) else (f_J4_charAt_5068e sb x)))
def ok_X6_signAt (q : PrV) (sb : SbV) (x : Int32) : Prop := (if x < (0 : Int32) then True else (if (f_J4_length_8abf5 sb) ≤ x then True else (ok_J4_charAt_5068e sb x ∧ True)))
set_option maxHeartbeats 4000000 in
set_option maxRecDepth 100000 in
theorem c_X6_signAt (l : Launch) (G : GG) (qh0 : Nat) (sbh0 : Nat) (sbh1 : Nat) (q : PrV) (sb : SbV) (x : Int32) (hok : ok_X6_signAt q sb x) : rMet l yX6_signAt cX6_signAt 2 (some .char) 5 G (fl [[(qh0, .inr (9, [.int q.1, .int q.2.1, .int q.2.2.1, .int q.2.2.2, .ref sbh0]))], [(sbh0, .inr (1, [.ref sbh1, .int (0 : Int32), .int sb.2.2.1, .int sb.2.2.2]))], [(sbh1, .inl (G.2.1 2, sb.1, .inl sb.2.1))]]) [.ref qh0, .int x] (some (.int (f_X6_signAt q sb x))) (narrow .char (.int (f_X6_signAt q sb x)) = .int (f_X6_signAt q sb x)) := by
  refine r_start (by decide +kernel) (Nat.le_of_ble_eq_true rfl) ?_
  intro p e s m below meth c hx hb hr hml hts hown hlk hP hK hST ls hl
  have hS : va_S (fun _ => False) s.heap s.heap [] := va_S.rf
  have hown : s.vm.findClass RX6 = some m.cls := hown
  have hl : lv_has ls 2 [(0, .ref qh0), (1, .int x)] := hl
  have hF : f_X6_signAt q sb x = (if x < (0 : Int32) then (0 : Int32) else (if (f_J4_length_8abf5 sb) ≤ x then (0 : Int32) else (f_J4_charAt_5068e sb x))) := rfl
  have hok : (if x < (0 : Int32) then True else (if (f_J4_length_8abf5 sb) ≤ x then True else (ok_J4_charAt_5068e sb x ∧ True))) := hok
  refine lv_iload_n hx hb dX6_signAt_0 rfl (lv_at hl 1 rfl) ?_
  refine lv_if_lt (tgt := 26) hx hb dX6_signAt_1 (by decide) (fun c_1 => ?_) (fun c_1 => ?_)
  · have hF := hF.trans (if_pos c_1)
    have hok := Eq.mp (if_pos c_1) hok
    refine lv_iconst (v := (0 : Int32)) hx hb dX6_signAt_26 (by decide) ?_
    exact r_ret hx hb hr hlk rfl (by rw [hF]) (by rw [hF]; exact (rfl : narrow .char (.int (0 : Int32)) = .int (0 : Int32))) dX6_signAt_27
  · have hF := hF.trans (if_neg c_1)
    have hok := Eq.mp (if_neg c_1) hok
    refine lv_iload_n hx hb dX6_signAt_4 rfl (lv_at hl 1 rfl) ?_
    refine lv_aload_n hx hb dX6_signAt_5 rfl (lv_at hl 0 rfl) ?_
    refine va_get (D := G.1) (ci := 9) (v := .ref sbh0) (C := RX6) (T := TX6) (N := 5) hx hb hts uws_X6 hown hK hP 0 rfl rfl 4 (by decide) (hts _ u_1083) (fun _ h9 => h9) rfl dX6_signAt_6 ?_
    refine r_V (own := RX6) (v := (some (.int (f_J4_length_8abf5 sb)))) (st1 := [.int (f_J4_length_8abf5 sb), .int x]) (As := []) (rest := [.int x]) (c_J4_length_8abf5 l G sbh0 sbh1 sb) ⟨hx, hb, hml, hown, hts⟩ g_X6_31 hdv_J4_length_8abf5 hK hST hS hP [1, 2] rfl (k0 := 0) rfl rfl rfl ⟨Nat.le_of_ble_eq_true rfl, Nat.le_of_ble_eq_true rfl⟩ ⟨Nat.le_of_ble_eq_true rfl, Nat.le_of_ble_eq_true rfl⟩ rfl hl.1 rfl (Nat.le_of_ble_eq_true rfl) dX6_signAt_9 rfl (fun b_2 => ?_)
    refine lv_icmp_ge (tgt := 26) hx hb dX6_signAt_12 (by decide) (fun c_3 => ?_) (fun c_3 => ?_)
    · have hF := hF.trans (if_pos c_3)
      have hok := Eq.mp (if_pos c_3) hok
      refine lv_iconst (v := (0 : Int32)) hx hb dX6_signAt_26 (by decide) ?_
      exact r_ret hx hb hr hlk rfl (by rw [hF]) (by rw [hF]; exact (rfl : narrow .char (.int (0 : Int32)) = .int (0 : Int32))) dX6_signAt_27
    · have hF := hF.trans (if_neg c_3)
      have hok := Eq.mp (if_neg c_3) hok
      refine lv_aload_n hx hb dX6_signAt_15 rfl (lv_at hl 0 rfl) ?_
      refine va_get (D := G.1) (ci := 9) (v := .ref sbh0) (C := RX6) (T := TX6) (N := 5) hx hb hts uws_X6 hown hK hP 0 rfl rfl 4 (by decide) (hts _ u_1083) (fun _ h9 => h9) rfl dX6_signAt_16 ?_
      refine lv_iload_n hx hb dX6_signAt_19 rfl (lv_at hl 1 rfl) ?_
      have k_4 := hok.1
      have hok := hok.2
      refine r_V (own := RX6) (v := (some (.int (f_J4_charAt_5068e sb x)))) (st1 := [.int (f_J4_charAt_5068e sb x)]) (As := [.int x]) (rest := []) (c_J4_charAt_5068e l G sbh0 sbh1 sb x k_4) ⟨hx, hb, hml, hown, hts⟩ g_X6_90 hdv_J4_charAt_5068e hK hST hS hP [1, 2] rfl (k0 := 0) rfl rfl rfl ⟨Nat.le_of_ble_eq_true rfl, Nat.le_of_ble_eq_true rfl⟩ ⟨Nat.le_of_ble_eq_true rfl, Nat.le_of_ble_eq_true rfl⟩ rfl hl.1 rfl (Nat.le_of_ble_eq_true rfl) dX6_signAt_20 rfl (fun b_5 => ?_)
      refine lv_goto (tgt := 27) hx hb dX6_signAt_23 (by decide) ?_
      exact r_ret hx hb hr hlk b_5 (by rw [hF]) (by rw [hF]; exact (b_5 : narrow .char (.int (f_J4_charAt_5068e sb x)) = .int (f_J4_charAt_5068e sb x))) dX6_signAt_27
theorem dX6_append_0 : decode cX6_append 0 = .ok (.aload_n 0, 1) := by decide +kernel
theorem dX6_append_1 : decode cX6_append 1 = .ok (.getfield 27, 3) := by decide +kernel
theorem dX6_append_4 : decode cX6_append 4 = .ok (.iload_n 1, 1) := by decide +kernel
theorem dX6_append_5 : decode cX6_append 5 = .ok (.invokevirtual 35, 3) := by decide +kernel
theorem u_1297 : Cond.methodLink RX6 35 yJ4_append_cf468 ∈ UW := uw 1297 (by decide +kernel) rfl
theorem g_X6_35 : GoodIn UW (wsV RX6 35 RJ4 yJ4_append_cf468 (wsU yJ4_append_cf468 cJ4_append_cf468 2 (some (.object "java/lang/StringBuilder")))) := gV u_1297 u_473 u_474 u_30 u_475
theorem dX6_append_8 : decode cX6_append 8 = .ok (.pop, 1) := by decide +kernel
theorem dX6_append_9 : decode cX6_append 9 = .ok (.aload_n 0, 1) := by decide +kernel
theorem dX6_append_10 : decode cX6_append 10 = .ok (.getfield 27, 3) := by decide +kernel
theorem dX6_append_13 : decode cX6_append 13 = .ok (.invokevirtual 31, 3) := by decide +kernel
theorem dX6_append_16 : decode cX6_append 16 = .ok (.ireturn, 1) := by decide +kernel
def f_X6_append (q : PrV) (sb : SbV) (x : Int32) : Int32 × SbV := (let u_3 : SbV := (f_J4_append_cf468 sb x); ((f_J4_length_8abf5 u_3), u_3))
def ok_X6_append (q : PrV) (sb : SbV) (x : Int32) : Prop := (ok_J4_append_cf468 sb x ∧ True)
set_option maxHeartbeats 4000000 in
set_option maxRecDepth 100000 in
theorem c_X6_append (l : Launch) (G : GG) (qh0 : Nat) (sbh0 : Nat) (sbh1 : Nat) (sz : Nat) (q : PrV) (sb : SbV) (x : Int32) (hok : ok_X6_append q sb x) : wMet l yX6_append cX6_append 2 (some .int) 7 1 200 G (fl [[(qh0, .inr (9, [.int q.1, .int q.2.1, .int q.2.2.1, .int q.2.2.2, .ref sbh0]))], [(sbh0, .inr (1, [.ref sbh1, .int (0 : Int32), .int sb.2.2.1, .int sb.2.2.2]))], [(sbh1, .inl (G.2.1 2, sb.1, .inl sb.2.1))]]) [.ref qh0, .int x] sz (fun u : Nat × Int32 × SbV => some (.int u.2.1)) (fun u : Nat × Int32 × SbV => u.2 = f_X6_append q sb x) (fun u : Nat × Int32 × SbV => fl [[(qh0, .inr (9, [.int q.1, .int q.2.1, .int q.2.2.1, .int q.2.2.2, .ref sbh0]))], [(sbh0, .inr (1, [.ref u.1, .int (0 : Int32), .int u.2.2.2.2.1, .int u.2.2.2.2.2]))], [(u.1, .inl (G.2.1 2, u.2.2.1, .inl u.2.2.2.1))]]) := by
  refine w_start (by decide +kernel) (Nat.le_of_ble_eq_true rfl) ?_
  intro p e s m below meth c A hx hb hr hml hts hown hlk hin hP hD hA hK hST ls hl
  have hS : va_S A s.heap s.heap [] := va_S.rf
  have hown : s.vm.findClass RX6 = some m.cls := hown
  have hl : lv_has ls 2 [(0, .ref qh0), (1, .int x)] := hl
  have hF : f_X6_append q sb x = (let u_3 : SbV := (f_J4_append_cf468 sb x); ((f_J4_length_8abf5 u_3), u_3)) := rfl
  have hok : (ok_J4_append_cf468 sb x ∧ True) := hok
  refine lv_aload_n hx hb dX6_append_0 rfl (lv_at hl 0 rfl) ?_
  refine va_get (D := G.1) (ci := 9) (v := .ref sbh0) (C := RX6) (T := TX6) (N := 5) hx hb hts uws_X6 hown hK hP 0 rfl rfl 4 (by decide) (hts _ u_1083) (fun _ h9 => h9) rfl dX6_append_1 ?_
  refine lv_iload_n hx hb dX6_append_4 rfl (lv_at hl 1 rfl) ?_
  have k_1 := hok.1
  have hok := hok.2
  refine w_V (own := RX6) (cs := [[(sbh0, .inr (1, [.ref sbh1, .int (0 : Int32), .int sb.2.2.1, .int sb.2.2.2]))], [(sbh1, .inl (G.2.1 2, sb.1, .inl sb.2.1))]]) (rs := [[(qh0, .inr (9, [.int q.1, .int q.2.1, .int q.2.2.1, .int q.2.2.2, .ref sbh0]))]]) (As := [.int x]) (rest := []) (c_J4_append_cf468 l G sbh0 sbh1 s.heap.size sb x k_1) ⟨hx, hb, hml, hown, hts⟩ g_X6_35 hdv_J4_append_cf468 hK hST hS hP hD hA [1, 2] [0] rfl rfl rfl (k0 := 0) rfl rfl rfl ⟨Nat.le_of_ble_eq_true rfl, Nat.le_of_ble_eq_true rfl⟩ ⟨Nat.le_of_ble_eq_true rfl, Nat.le_of_ble_eq_true rfl⟩ rfl hl.1 rfl (Nat.le_of_ble_eq_true rfl) dX6_append_5 (fun u_3 H locs huu hP hD hS => ?_)
  obtain ⟨qu_3, u_3⟩ := u_3
  have eu_3 : u_3 = (f_J4_append_cf468 sb x) := huu
  have hP : va_P G.1 vwCl (fl [[(sbh0, .inr (1, [.ref qu_3, .int (0 : Int32), .int u_3.2.2.1, .int u_3.2.2.2]))], [(qu_3, .inl (G.2.1 2, u_3.1, .inl u_3.2.1))], [(qh0, .inr (9, [.int q.1, .int q.2.1, .int q.2.2.1, .int q.2.2.2, .ref sbh0]))]]) H := hP
  have hD : va_D A (fl [[(sbh0, .inr (1, [.ref qu_3, .int (0 : Int32), .int u_3.2.2.1, .int u_3.2.2.2]))], [(qu_3, .inl (G.2.1 2, u_3.1, .inl u_3.2.1))], [(qh0, .inr (9, [.int q.1, .int q.2.1, .int q.2.2.1, .int q.2.2.2, .ref sbh0]))]]) := hD
  refine W.eq (g2 := F0 m 8 ls [.ref sbh0]) rfl ?_
  have hF : f_X6_append q sb x = ((f_J4_length_8abf5 u_3), u_3) := by subst eu_3; exact hF
  refine lv_pop hx hb dX6_append_8 rfl ?_
  refine lv_aload_n hx hb dX6_append_9 rfl (lv_at hl 0 rfl) ?_
  refine va_get (D := G.1) (ci := 9) (v := .ref sbh0) (C := RX6) (T := TX6) (N := 5) hx hb hts uws_X6 hown hK hP 2 rfl rfl 4 (by decide) (hts _ u_1083) (fun _ h9 => h9) rfl dX6_append_10 ?_
  refine r_V (own := RX6) (v := (some (.int (f_J4_length_8abf5 u_3)))) (st1 := [.int (f_J4_length_8abf5 u_3)]) (As := []) (rest := []) (c_J4_length_8abf5 l G sbh0 qu_3 u_3) ⟨hx, hb, hml, hown, hts⟩ g_X6_31 hdv_J4_length_8abf5 hK hST hS hP [0, 1] rfl (k0 := 0) rfl rfl rfl ⟨Nat.le_of_ble_eq_true rfl, Nat.le_of_ble_eq_true rfl⟩ ⟨Nat.le_of_ble_eq_true rfl, Nat.le_of_ble_eq_true rfl⟩ rfl hl.1 rfl (Nat.le_of_ble_eq_true rfl) dX6_append_13 rfl (fun b_4 => ?_)
  have hP := fl_sub (cs := [[(qh0, .inr (9, [.int q.1, .int q.2.1, .int q.2.2.1, .int q.2.2.2, .ref sbh0]))], [(sbh0, .inr (1, [.ref qu_3, .int (0 : Int32), .int u_3.2.2.1, .int u_3.2.2.2]))], [(qu_3, .inl (G.2.1 2, u_3.1, .inl u_3.2.1))]]) [2, 0, 1] rfl hP
  have hD := fl_subD (cs := [[(qh0, .inr (9, [.int q.1, .int q.2.1, .int q.2.2.1, .int q.2.2.2, .ref sbh0]))], [(sbh0, .inr (1, [.ref qu_3, .int (0 : Int32), .int u_3.2.2.1, .int u_3.2.2.2]))], [(qu_3, .inl (G.2.1 2, u_3.1, .inl u_3.2.1))]]) [2, 0, 1] rfl rfl hD
  exact w_ret (u := (qu_3, ((f_J4_length_8abf5 u_3), u_3))) hx hb hr hlk rfl hS rfl hF.symm hP hD (Nat.le_of_ble_eq_true rfl) (Nat.le_of_ble_eq_true rfl) dX6_append_16
theorem dX6_clear_0 : decode cX6_clear 0 = .ok (.aload_n 0, 1) := by decide +kernel
theorem dX6_clear_1 : decode cX6_clear 1 = .ok (.getfield 27, 3) := by decide +kernel
theorem dX6_clear_4 : decode cX6_clear 4 = .ok (.iconst 0, 1) := by decide +kernel
theorem dX6_clear_5 : decode cX6_clear 5 = .ok (.invokevirtual 39, 3) := by decide +kernel
theorem u_1374 : Cond.methodLink RX6 39 yJ4_setLength_d00df ∈ UW := uw 1374 (by decide +kernel) rfl
theorem u_155 : Cond.instanceMethod yJ4_setLength_d00df ∈ UW := uw 155 (by decide +kernel) rfl
theorem u_156 : Cond.selects RJ4 yJ4_setLength_d00df yJ4_setLength_d00df ∈ UW := uw 156 (by decide +kernel) rfl
theorem u_157 : Cond.code yJ4_setLength_d00df cJ4_setLength_d00df 2 none ∈ UW := uw 157 (by decide +kernel) rfl
theorem g_X6_39 : GoodIn UW (wsV RX6 39 RJ4 yJ4_setLength_d00df (wsU yJ4_setLength_d00df cJ4_setLength_d00df 2 none)) := gV u_1374 u_155 u_156 u_30 u_157
theorem hdv_J4_setLength_d00df : yJ4_setLength_d00df.cls = RJ4 ∧ yJ4_setLength_d00df.cls ≠ "java/lang/invoke/MethodHandle" ∧ yJ4_setLength_d00df.cls ≠ "java/lang/invoke/VarHandle" ∧ (parseMethodDescriptor yJ4_setLength_d00df.desc).map (fun d => d.parameters.length) = some 1 := by decide +kernel
theorem dX6_clear_8 : decode cX6_clear 8 = .ok (.return_, 1) := by decide +kernel
def f_X6_clear (q : PrV) (sb : SbV) : SbV := (let u_3 : SbV := (f_J4_setLength_d00df sb (0 : Int32)); u_3)
def ok_X6_clear (q : PrV) (sb : SbV) : Prop := (ok_J4_setLength_d00df sb (0 : Int32) ∧ True)
set_option maxHeartbeats 4000000 in
set_option maxRecDepth 100000 in
theorem c_X6_clear (l : Launch) (G : GG) (qh0 : Nat) (sbh0 : Nat) (sbh1 : Nat) (sz : Nat) (q : PrV) (sb : SbV) (hok : ok_X6_clear q sb) : wMet l yX6_clear cX6_clear 1 none 7 1 200 G (fl [[(qh0, .inr (9, [.int q.1, .int q.2.1, .int q.2.2.1, .int q.2.2.2, .ref sbh0]))], [(sbh0, .inr (1, [.ref sbh1, .int (0 : Int32), .int sb.2.2.1, .int sb.2.2.2]))], [(sbh1, .inl (G.2.1 2, sb.1, .inl sb.2.1))]]) [.ref qh0] sz (fun u : Nat × SbV => none) (fun u : Nat × SbV => u.2 = f_X6_clear q sb) (fun u : Nat × SbV => fl [[(qh0, .inr (9, [.int q.1, .int q.2.1, .int q.2.2.1, .int q.2.2.2, .ref sbh0]))], [(sbh0, .inr (1, [.ref u.1, .int (0 : Int32), .int u.2.2.2.1, .int u.2.2.2.2]))], [(u.1, .inl (G.2.1 2, u.2.1, .inl u.2.2.1))]]) := by
  refine w_start (by decide +kernel) (Nat.le_of_ble_eq_true rfl) ?_
  intro p e s m below meth c A hx hb hr hml hts hown hlk hin hP hD hA hK hST ls hl
  have hS : va_S A s.heap s.heap [] := va_S.rf
  have hown : s.vm.findClass RX6 = some m.cls := hown
  have hl : lv_has ls 1 [(0, .ref qh0)] := hl
  have hF : f_X6_clear q sb = (let u_3 : SbV := (f_J4_setLength_d00df sb (0 : Int32)); u_3) := rfl
  have hok : (ok_J4_setLength_d00df sb (0 : Int32) ∧ True) := hok
  refine lv_aload_n hx hb dX6_clear_0 rfl (lv_at hl 0 rfl) ?_
  refine va_get (D := G.1) (ci := 9) (v := .ref sbh0) (C := RX6) (T := TX6) (N := 5) hx hb hts uws_X6 hown hK hP 0 rfl rfl 4 (by decide) (hts _ u_1083) (fun _ h9 => h9) rfl dX6_clear_1 ?_
  refine lv_iconst (v := (0 : Int32)) hx hb dX6_clear_4 (by decide) ?_
  have k_1 := hok.1
  have hok := hok.2
  refine w_V (own := RX6) (cs := [[(sbh0, .inr (1, [.ref sbh1, .int (0 : Int32), .int sb.2.2.1, .int sb.2.2.2]))], [(sbh1, .inl (G.2.1 2, sb.1, .inl sb.2.1))]]) (rs := [[(qh0, .inr (9, [.int q.1, .int q.2.1, .int q.2.2.1, .int q.2.2.2, .ref sbh0]))]]) (As := [.int (0 : Int32)]) (rest := []) (c_J4_setLength_d00df l G sbh0 sbh1 s.heap.size sb (0 : Int32) k_1) ⟨hx, hb, hml, hown, hts⟩ g_X6_39 hdv_J4_setLength_d00df hK hST hS hP hD hA [1, 2] [0] rfl rfl rfl (k0 := 0) rfl rfl rfl ⟨Nat.le_of_ble_eq_true rfl, Nat.le_of_ble_eq_true rfl⟩ ⟨Nat.le_of_ble_eq_true rfl, Nat.le_of_ble_eq_true rfl⟩ rfl hl.1 rfl (Nat.le_of_ble_eq_true rfl) dX6_clear_5 (fun u_3 H locs huu hP hD hS => ?_)
  obtain ⟨qu_3, u_3⟩ := u_3
  have eu_3 : u_3 = (f_J4_setLength_d00df sb (0 : Int32)) := huu
  have hP : va_P G.1 vwCl (fl [[(sbh0, .inr (1, [.ref qu_3, .int (0 : Int32), .int u_3.2.2.1, .int u_3.2.2.2]))], [(qu_3, .inl (G.2.1 2, u_3.1, .inl u_3.2.1))], [(qh0, .inr (9, [.int q.1, .int q.2.1, .int q.2.2.1, .int q.2.2.2, .ref sbh0]))]]) H := hP
  have hD : va_D A (fl [[(sbh0, .inr (1, [.ref qu_3, .int (0 : Int32), .int u_3.2.2.1, .int u_3.2.2.2]))], [(qu_3, .inl (G.2.1 2, u_3.1, .inl u_3.2.1))], [(qh0, .inr (9, [.int q.1, .int q.2.1, .int q.2.2.1, .int q.2.2.2, .ref sbh0]))]]) := hD
  refine W.eq (g2 := F0 m 8 ls []) rfl ?_
  have hF : f_X6_clear q sb = u_3 := by subst eu_3; exact hF
  have hP := fl_sub (cs := [[(qh0, .inr (9, [.int q.1, .int q.2.1, .int q.2.2.1, .int q.2.2.2, .ref sbh0]))], [(sbh0, .inr (1, [.ref qu_3, .int (0 : Int32), .int u_3.2.2.1, .int u_3.2.2.2]))], [(qu_3, .inl (G.2.1 2, u_3.1, .inl u_3.2.1))]]) [2, 0, 1] rfl hP
  have hD := fl_subD (cs := [[(qh0, .inr (9, [.int q.1, .int q.2.1, .int q.2.2.1, .int q.2.2.2, .ref sbh0]))], [(sbh0, .inr (1, [.ref qu_3, .int (0 : Int32), .int u_3.2.2.1, .int u_3.2.2.2]))], [(qu_3, .inl (G.2.1 2, u_3.1, .inl u_3.2.1))]]) [2, 0, 1] rfl rfl hD
  exact w_retV (u := (qu_3, u_3)) hx hb hr hlk hS rfl hF.symm hP hD (Nat.le_of_ble_eq_true rfl) (Nat.le_of_ble_eq_true rfl) dX6_clear_8
theorem dX6_rewind_0 : decode cX6_rewind 0 = .ok (.aload_n 0, 1) := by decide +kernel
theorem dX6_rewind_1 : decode cX6_rewind 1 = .ok (.iconst 0, 1) := by decide +kernel
theorem dX6_rewind_2 : decode cX6_rewind 2 = .ok (.putfield 9, 3) := by decide +kernel
theorem u_1075 : Cond.fieldLink RX6 9 "MoonlitDoors$Program" "position" "I" ∈ UW := uw 1075 (by decide +kernel) rfl
theorem dX6_rewind_5 : decode cX6_rewind 5 = .ok (.return_, 1) := by decide +kernel
def f_X6_rewind (q : PrV) (sb : SbV) : PrV := ((0 : Int32), q.2.1, q.2.2.1, q.2.2.2)
set_option maxHeartbeats 4000000 in
set_option maxRecDepth 100000 in
theorem c_X6_rewind (l : Launch) (G : GG) (qh0 : Nat) (sbh0 : Nat) (sbh1 : Nat) (sz : Nat) (q : PrV) (sb : SbV) : wMet l yX6_rewind cX6_rewind 1 none 1 0 0 G (fl [[(qh0, .inr (9, [.int q.1, .int q.2.1, .int q.2.2.1, .int q.2.2.2, .ref sbh0]))], [(sbh0, .inr (1, [.ref sbh1, .int (0 : Int32), .int sb.2.2.1, .int sb.2.2.2]))], [(sbh1, .inl (G.2.1 2, sb.1, .inl sb.2.1))]]) [.ref qh0] sz (fun u : PrV => none) (fun u : PrV => u = f_X6_rewind q sb) (fun u : PrV => fl [[(qh0, .inr (9, [.int u.1, .int u.2.1, .int u.2.2.1, .int u.2.2.2, .ref sbh0]))], [(sbh0, .inr (1, [.ref sbh1, .int (0 : Int32), .int sb.2.2.1, .int sb.2.2.2]))], [(sbh1, .inl (G.2.1 2, sb.1, .inl sb.2.1))]]) := by
  refine w_start (by decide +kernel) (Nat.le_of_ble_eq_true rfl) ?_
  intro p e s m below meth c A hx hb hr hml hts hown hlk hin hP hD hA hK hST ls hl
  have hS : va_S A s.heap s.heap [] := va_S.rf
  have hown : s.vm.findClass RX6 = some m.cls := hown
  have hl : lv_has ls 1 [(0, .ref qh0)] := hl
  have hF : f_X6_rewind q sb = ((0 : Int32), q.2.1, q.2.2.1, q.2.2.2) := rfl
  refine lv_aload_n hx hb dX6_rewind_0 rfl (lv_at hl 0 rfl) ?_
  refine lv_iconst (v := (0 : Int32)) hx hb dX6_rewind_1 (by decide) ?_
  refine va_put (D := G.1) (ci := 9) (v := .int (0 : Int32)) (ty := .int) (C := RX6) (T := TX6) (N := 5) hx hb hts uws_X6 tyX6 tyX6_ok nmX6 hown hK hP hD hS 0 rfl rfl 0 (by decide) (hts _ u_1075) (fun _ h9 => h9) rfl (by decide +kernel) rfl rfl (Nat.le_of_ble_eq_true rfl) dX6_rewind_2 (fun H locs hP hD hS => ?_)
  have hP : va_P G.1 vwCl (fl [[(qh0, .inr (9, [.int (0 : Int32), .int q.2.1, .int q.2.2.1, .int q.2.2.2, .ref sbh0]))], [(sbh0, .inr (1, [.ref sbh1, .int (0 : Int32), .int sb.2.2.1, .int sb.2.2.2]))], [(sbh1, .inl (G.2.1 2, sb.1, .inl sb.2.1))]]) H := hP
  have hD : va_D A (fl [[(qh0, .inr (9, [.int (0 : Int32), .int q.2.1, .int q.2.2.1, .int q.2.2.2, .ref sbh0]))], [(sbh0, .inr (1, [.ref sbh1, .int (0 : Int32), .int sb.2.2.1, .int sb.2.2.2]))], [(sbh1, .inl (G.2.1 2, sb.1, .inl sb.2.1))]]) := hD
  exact w_retV (u := ((0 : Int32), q.2.1, q.2.2.1, q.2.2.2)) hx hb hr hlk hS rfl hF.symm hP hD (Nat.le_of_ble_eq_true rfl) (Nat.le_of_ble_eq_true rfl) dX6_rewind_5
theorem dX6_readSign_0 : decode cX6_readSign 0 = .ok (.aload_n 0, 1) := by decide +kernel
theorem dX6_readSign_1 : decode cX6_readSign 1 = .ok (.aload_n 0, 1) := by decide +kernel
theorem dX6_readSign_2 : decode cX6_readSign 2 = .ok (.getfield 9, 3) := by decide +kernel
theorem dX6_readSign_5 : decode cX6_readSign 5 = .ok (.invokevirtual 60, 3) := by decide +kernel
theorem u_1338 : Cond.methodLink RX6 60 yX6_signAt ∈ UW := uw 1338 (by decide +kernel) rfl
theorem u_1340 : Cond.instanceMethod yX6_signAt ∈ UW := uw 1340 (by decide +kernel) rfl
theorem u_11 : Cond.selects RX6 yX6_signAt yX6_signAt ∈ UW := uw 11 (by decide +kernel) rfl
theorem u_28 : Cond.initialized RX6 ∈ UW := uw 28 (by decide +kernel) rfl
theorem u_1341 : Cond.code yX6_signAt cX6_signAt 2 (some .char) ∈ UW := uw 1341 (by decide +kernel) rfl
theorem g_X6_60 : GoodIn UW (wsV RX6 60 RX6 yX6_signAt (wsU yX6_signAt cX6_signAt 2 (some .char))) := gV u_1338 u_1340 u_11 u_28 u_1341
theorem hdv_X6_signAt : yX6_signAt.cls = RX6 ∧ yX6_signAt.cls ≠ "java/lang/invoke/MethodHandle" ∧ yX6_signAt.cls ≠ "java/lang/invoke/VarHandle" ∧ (parseMethodDescriptor yX6_signAt.desc).map (fun d => d.parameters.length) = some 1 := by decide +kernel
theorem dX6_readSign_8 : decode cX6_readSign 8 = .ok (.iload_n 1, 1) := by decide +kernel
theorem dX6_readSign_9 : decode cX6_readSign 9 = .ok (.if_icmp .eq 5, 3) := by decide +kernel
theorem dX6_readSign_14 : decode cX6_readSign 14 = .ok (.aload_n 0, 1) := by decide +kernel
theorem dX6_readSign_15 : decode cX6_readSign 15 = .ok (.dup, 1) := by decide +kernel
theorem dX6_readSign_16 : decode cX6_readSign 16 = .ok (.getfield 9, 3) := by decide +kernel
theorem dX6_readSign_19 : decode cX6_readSign 19 = .ok (.iconst 1, 1) := by decide +kernel
theorem dX6_readSign_20 : decode cX6_readSign 20 = .ok (.iadd, 1) := by decide +kernel
theorem dX6_readSign_21 : decode cX6_readSign 21 = .ok (.putfield 9, 3) := by decide +kernel
theorem dX6_readSign_24 : decode cX6_readSign 24 = .ok (.iconst 1, 1) := by decide +kernel
theorem dX6_readSign_25 : decode cX6_readSign 25 = .ok (.ireturn, 1) := by decide +kernel
theorem dX6_readSign_12 : decode cX6_readSign 12 = .ok (.iconst 0, 1) := by decide +kernel
theorem dX6_readSign_13 : decode cX6_readSign 13 = .ok (.ireturn, 1) := by decide +kernel
def f_X6_readSign (q : PrV) (sb : SbV) (x : Int32) : Int32 × PrV := (if (f_X6_signAt q sb q.1) = x then ((1 : Int32), ((q.1 + (1 : Int32)), q.2.1, q.2.2.1, q.2.2.2)) else ((0 : Int32), q))
def ok_X6_readSign (q : PrV) (sb : SbV) (x : Int32) : Prop := (ok_X6_signAt q sb q.1 ∧ True)
set_option maxHeartbeats 4000000 in
set_option maxRecDepth 100000 in
theorem c_X6_readSign (l : Launch) (G : GG) (qh0 : Nat) (sbh0 : Nat) (sbh1 : Nat) (sz : Nat) (q : PrV) (sb : SbV) (x : Int32) (hok : ok_X6_readSign q sb x) : wMet l yX6_readSign cX6_readSign 2 (some .boolean) 6 0 0 G (fl [[(qh0, .inr (9, [.int q.1, .int q.2.1, .int q.2.2.1, .int q.2.2.2, .ref sbh0]))], [(sbh0, .inr (1, [.ref sbh1, .int (0 : Int32), .int sb.2.2.1, .int sb.2.2.2]))], [(sbh1, .inl (G.2.1 2, sb.1, .inl sb.2.1))]]) [.ref qh0, .int x] sz (fun u : Int32 × PrV => some (.int u.1)) (fun u : Int32 × PrV => u = f_X6_readSign q sb x ∧ narrow .boolean (.int ((f_X6_readSign q sb x).1)) = .int ((f_X6_readSign q sb x).1)) (fun u : Int32 × PrV => fl [[(qh0, .inr (9, [.int u.2.1, .int u.2.2.1, .int u.2.2.2.1, .int u.2.2.2.2, .ref sbh0]))], [(sbh0, .inr (1, [.ref sbh1, .int (0 : Int32), .int sb.2.2.1, .int sb.2.2.2]))], [(sbh1, .inl (G.2.1 2, sb.1, .inl sb.2.1))]]) := by
  refine w_start (by decide +kernel) (Nat.le_of_ble_eq_true rfl) ?_
  intro p e s m below meth c A hx hb hr hml hts hown hlk hin hP hD hA hK hST ls hl
  have hS : va_S A s.heap s.heap [] := va_S.rf
  have hown : s.vm.findClass RX6 = some m.cls := hown
  have hl : lv_has ls 2 [(0, .ref qh0), (1, .int x)] := hl
  have hF : f_X6_readSign q sb x = (if (f_X6_signAt q sb q.1) = x then ((1 : Int32), ((q.1 + (1 : Int32)), q.2.1, q.2.2.1, q.2.2.2)) else ((0 : Int32), q)) := rfl
  have hok : (ok_X6_signAt q sb q.1 ∧ True) := hok
  refine lv_aload_n hx hb dX6_readSign_0 rfl (lv_at hl 0 rfl) ?_
  refine lv_aload_n hx hb dX6_readSign_1 rfl (lv_at hl 0 rfl) ?_
  refine va_get (D := G.1) (ci := 9) (v := .int q.1) (C := RX6) (T := TX6) (N := 5) hx hb hts uws_X6 hown hK hP 0 rfl rfl 0 (by decide) (hts _ u_1075) (fun _ h9 => h9) rfl dX6_readSign_2 ?_
  have k_1 := hok.1
  have hok := hok.2
  refine r_V (own := RX6) (v := (some (.int (f_X6_signAt q sb q.1)))) (st1 := [.int (f_X6_signAt q sb q.1)]) (As := [.int q.1]) (rest := []) (c_X6_signAt l G qh0 sbh0 sbh1 q sb q.1 k_1) ⟨hx, hb, hml, hown, hts⟩ g_X6_60 hdv_X6_signAt hK hST hS hP [0, 1, 2] rfl (k0 := 0) rfl rfl rfl ⟨Nat.le_of_ble_eq_true rfl, Nat.le_of_ble_eq_true rfl⟩ ⟨Nat.le_of_ble_eq_true rfl, Nat.le_of_ble_eq_true rfl⟩ rfl hl.1 rfl (Nat.le_of_ble_eq_true rfl) dX6_readSign_5 rfl (fun b_2 => ?_)
  refine lv_iload_n hx hb dX6_readSign_8 rfl (lv_at hl 1 rfl) ?_
  refine lv_icmp_eq (tgt := 14) hx hb dX6_readSign_9 (by decide) (fun c_3 => ?_) (fun c_3 => ?_)
  · have hF := hF.trans (if_pos c_3)
    refine lv_aload_n hx hb dX6_readSign_14 rfl (lv_at hl 0 rfl) ?_
    refine lv_dup hx hb dX6_readSign_15 rfl ?_
    refine va_get (D := G.1) (ci := 9) (v := .int q.1) (C := RX6) (T := TX6) (N := 5) hx hb hts uws_X6 hown hK hP 0 rfl rfl 0 (by decide) (hts _ u_1075) (fun _ h9 => h9) rfl dX6_readSign_16 ?_
    refine lv_iconst (v := (1 : Int32)) hx hb dX6_readSign_19 (by decide) ?_
    refine lv_iadd hx hb dX6_readSign_20 ?_
    refine va_put (D := G.1) (ci := 9) (v := .int (q.1 + (1 : Int32))) (ty := .int) (C := RX6) (T := TX6) (N := 5) hx hb hts uws_X6 tyX6 tyX6_ok nmX6 hown hK hP hD hS 0 rfl rfl 0 (by decide) (hts _ u_1075) (fun _ h9 => h9) rfl (by decide +kernel) rfl rfl (Nat.le_of_ble_eq_true rfl) dX6_readSign_21 (fun H locs hP hD hS => ?_)
    have hP : va_P G.1 vwCl (fl [[(qh0, .inr (9, [.int (q.1 + (1 : Int32)), .int q.2.1, .int q.2.2.1, .int q.2.2.2, .ref sbh0]))], [(sbh0, .inr (1, [.ref sbh1, .int (0 : Int32), .int sb.2.2.1, .int sb.2.2.2]))], [(sbh1, .inl (G.2.1 2, sb.1, .inl sb.2.1))]]) H := hP
    have hD : va_D A (fl [[(qh0, .inr (9, [.int (q.1 + (1 : Int32)), .int q.2.1, .int q.2.2.1, .int q.2.2.2, .ref sbh0]))], [(sbh0, .inr (1, [.ref sbh1, .int (0 : Int32), .int sb.2.2.1, .int sb.2.2.2]))], [(sbh1, .inl (G.2.1 2, sb.1, .inl sb.2.1))]]) := hD
    refine lv_iconst (v := (1 : Int32)) hx hb dX6_readSign_24 (by decide) ?_
    exact w_ret (u := ((1 : Int32), ((q.1 + (1 : Int32)), q.2.1, q.2.2.1, q.2.2.2))) hx hb hr hlk rfl hS rfl ⟨hF.symm, (by rw [hF]; exact (rfl : narrow .boolean (.int (1 : Int32)) = .int (1 : Int32)))⟩ hP hD (Nat.le_of_ble_eq_true rfl) (Nat.le_of_ble_eq_true rfl) dX6_readSign_25
  · have hF := hF.trans (if_neg c_3)
    refine lv_iconst (v := (0 : Int32)) hx hb dX6_readSign_12 (by decide) ?_
    exact w_ret (u := ((0 : Int32), q)) hx hb hr hlk rfl hS rfl ⟨hF.symm, (by rw [hF]; exact (rfl : narrow .boolean (.int (0 : Int32)) = .int (0 : Int32)))⟩ hP hD (Nat.le_of_ble_eq_true rfl) (Nat.le_of_ble_eq_true rfl) dX6_readSign_13
theorem dX6_readDigit_0 : decode cX6_readDigit 0 = .ok (.aload_n 0, 1) := by decide +kernel
theorem dX6_readDigit_1 : decode cX6_readDigit 1 = .ok (.aload_n 0, 1) := by decide +kernel
theorem dX6_readDigit_2 : decode cX6_readDigit 2 = .ok (.getfield 9, 3) := by decide +kernel
theorem dX6_readDigit_5 : decode cX6_readDigit 5 = .ok (.invokevirtual 60, 3) := by decide +kernel
theorem dX6_readDigit_8 : decode cX6_readDigit 8 = .ok (.istore_n 1, 1) := by decide +kernel
theorem dX6_readDigit_9 : decode cX6_readDigit 9 = .ok (.iload_n 1, 1) := by decide +kernel
theorem dX6_readDigit_10 : decode cX6_readDigit 10 = .ok (.bipush 48, 2) := by decide +kernel
theorem dX6_readDigit_12 : decode cX6_readDigit 12 = .ok (.if_icmp .lt 9, 3) := by decide +kernel
theorem dX6_readDigit_21 : decode cX6_readDigit 21 = .ok (.iconst (-1), 1) := by decide +kernel
theorem dX6_readDigit_22 : decode cX6_readDigit 22 = .ok (.ireturn, 1) := by decide +kernel
theorem dX6_readDigit_15 : decode cX6_readDigit 15 = .ok (.iload_n 1, 1) := by decide +kernel
theorem dX6_readDigit_16 : decode cX6_readDigit 16 = .ok (.bipush 57, 2) := by decide +kernel
theorem dX6_readDigit_18 : decode cX6_readDigit 18 = .ok (.if_icmp .le 5, 3) := by decide +kernel
theorem dX6_readDigit_23 : decode cX6_readDigit 23 = .ok (.aload_n 0, 1) := by decide +kernel
theorem dX6_readDigit_24 : decode cX6_readDigit 24 = .ok (.dup, 1) := by decide +kernel
theorem dX6_readDigit_25 : decode cX6_readDigit 25 = .ok (.getfield 9, 3) := by decide +kernel
theorem dX6_readDigit_28 : decode cX6_readDigit 28 = .ok (.iconst 1, 1) := by decide +kernel
theorem dX6_readDigit_29 : decode cX6_readDigit 29 = .ok (.iadd, 1) := by decide +kernel
theorem dX6_readDigit_30 : decode cX6_readDigit 30 = .ok (.putfield 9, 3) := by decide +kernel
theorem dX6_readDigit_33 : decode cX6_readDigit 33 = .ok (.iload_n 1, 1) := by decide +kernel
theorem dX6_readDigit_34 : decode cX6_readDigit 34 = .ok (.bipush 48, 2) := by decide +kernel
theorem dX6_readDigit_36 : decode cX6_readDigit 36 = .ok (.isub, 1) := by decide +kernel
theorem dX6_readDigit_37 : decode cX6_readDigit 37 = .ok (.ireturn, 1) := by decide +kernel
def f_X6_readDigit (q : PrV) (sb : SbV) : Int32 × PrV := (if (f_X6_signAt q sb q.1) < (48 : Int32) then ((-1 : Int32), q) else (if (f_X6_signAt q sb q.1) ≤ (57 : Int32) then (((f_X6_signAt q sb q.1) - (48 : Int32)), ((q.1 + (1 : Int32)), q.2.1, q.2.2.1, q.2.2.2)) else ((-1 : Int32), q)))
def ok_X6_readDigit (q : PrV) (sb : SbV) : Prop := (ok_X6_signAt q sb q.1 ∧ True)
set_option maxHeartbeats 4000000 in
set_option maxRecDepth 100000 in
theorem c_X6_readDigit (l : Launch) (G : GG) (qh0 : Nat) (sbh0 : Nat) (sbh1 : Nat) (sz : Nat) (q : PrV) (sb : SbV) (hok : ok_X6_readDigit q sb) : wMet l yX6_readDigit cX6_readDigit 2 (some .int) 6 0 0 G (fl [[(qh0, .inr (9, [.int q.1, .int q.2.1, .int q.2.2.1, .int q.2.2.2, .ref sbh0]))], [(sbh0, .inr (1, [.ref sbh1, .int (0 : Int32), .int sb.2.2.1, .int sb.2.2.2]))], [(sbh1, .inl (G.2.1 2, sb.1, .inl sb.2.1))]]) [.ref qh0] sz (fun u : Int32 × PrV => some (.int u.1)) (fun u : Int32 × PrV => u = f_X6_readDigit q sb) (fun u : Int32 × PrV => fl [[(qh0, .inr (9, [.int u.2.1, .int u.2.2.1, .int u.2.2.2.1, .int u.2.2.2.2, .ref sbh0]))], [(sbh0, .inr (1, [.ref sbh1, .int (0 : Int32), .int sb.2.2.1, .int sb.2.2.2]))], [(sbh1, .inl (G.2.1 2, sb.1, .inl sb.2.1))]]) := by
  refine w_start (by decide +kernel) (Nat.le_of_ble_eq_true rfl) ?_
  intro p e s m below meth c A hx hb hr hml hts hown hlk hin hP hD hA hK hST ls hl
  have hS : va_S A s.heap s.heap [] := va_S.rf
  have hown : s.vm.findClass RX6 = some m.cls := hown
  have hl : lv_has ls 2 [(0, .ref qh0)] := hl
  have hF : f_X6_readDigit q sb = (if (f_X6_signAt q sb q.1) < (48 : Int32) then ((-1 : Int32), q) else (if (f_X6_signAt q sb q.1) ≤ (57 : Int32) then (((f_X6_signAt q sb q.1) - (48 : Int32)), ((q.1 + (1 : Int32)), q.2.1, q.2.2.1, q.2.2.2)) else ((-1 : Int32), q))) := rfl
  have hok : (ok_X6_signAt q sb q.1 ∧ True) := hok
  refine lv_aload_n hx hb dX6_readDigit_0 rfl (lv_at hl 0 rfl) ?_
  refine lv_aload_n hx hb dX6_readDigit_1 rfl (lv_at hl 0 rfl) ?_
  refine va_get (D := G.1) (ci := 9) (v := .int q.1) (C := RX6) (T := TX6) (N := 5) hx hb hts uws_X6 hown hK hP 0 rfl rfl 0 (by decide) (hts _ u_1075) (fun _ h9 => h9) rfl dX6_readDigit_2 ?_
  have k_1 := hok.1
  have hok := hok.2
  refine r_V (own := RX6) (v := (some (.int (f_X6_signAt q sb q.1)))) (st1 := [.int (f_X6_signAt q sb q.1)]) (As := [.int q.1]) (rest := []) (c_X6_signAt l G qh0 sbh0 sbh1 q sb q.1 k_1) ⟨hx, hb, hml, hown, hts⟩ g_X6_60 hdv_X6_signAt hK hST hS hP [0, 1, 2] rfl (k0 := 0) rfl rfl rfl ⟨Nat.le_of_ble_eq_true rfl, Nat.le_of_ble_eq_true rfl⟩ ⟨Nat.le_of_ble_eq_true rfl, Nat.le_of_ble_eq_true rfl⟩ rfl hl.1 rfl (Nat.le_of_ble_eq_true rfl) dX6_readDigit_5 rfl (fun b_2 => ?_)
  refine lv_istore_n (lv' := [(1, .int (f_X6_signAt q sb q.1)), (0, .ref qh0)]) hx hb dX6_readDigit_8 rfl hl (by decide) rfl (fun ls hl => ?_)
  refine lv_iload_n hx hb dX6_readDigit_9 rfl (lv_at hl 0 rfl) ?_
  refine lv_bipush (v := (48 : Int32)) hx hb dX6_readDigit_10 (by decide) ?_
  refine lv_icmp_lt (tgt := 21) hx hb dX6_readDigit_12 (by decide) (fun c_3 => ?_) (fun c_3 => ?_)
  · have hF := hF.trans (if_pos c_3)
    refine lv_iconst (v := (-1 : Int32)) hx hb dX6_readDigit_21 (by decide) ?_
    exact w_ret (u := ((-1 : Int32), q)) hx hb hr hlk rfl hS rfl hF.symm hP hD (Nat.le_of_ble_eq_true rfl) (Nat.le_of_ble_eq_true rfl) dX6_readDigit_22
  · have hF := hF.trans (if_neg c_3)
    refine lv_iload_n hx hb dX6_readDigit_15 rfl (lv_at hl 0 rfl) ?_
    refine lv_bipush (v := (57 : Int32)) hx hb dX6_readDigit_16 (by decide) ?_
    refine lv_icmp_le (tgt := 23) hx hb dX6_readDigit_18 (by decide) (fun c_4 => ?_) (fun c_4 => ?_)
    · have hF := hF.trans (if_pos c_4)
      refine lv_aload_n hx hb dX6_readDigit_23 rfl (lv_at hl 1 rfl) ?_
      refine lv_dup hx hb dX6_readDigit_24 rfl ?_
      refine va_get (D := G.1) (ci := 9) (v := .int q.1) (C := RX6) (T := TX6) (N := 5) hx hb hts uws_X6 hown hK hP 0 rfl rfl 0 (by decide) (hts _ u_1075) (fun _ h9 => h9) rfl dX6_readDigit_25 ?_
      refine lv_iconst (v := (1 : Int32)) hx hb dX6_readDigit_28 (by decide) ?_
      refine lv_iadd hx hb dX6_readDigit_29 ?_
      refine va_put (D := G.1) (ci := 9) (v := .int (q.1 + (1 : Int32))) (ty := .int) (C := RX6) (T := TX6) (N := 5) hx hb hts uws_X6 tyX6 tyX6_ok nmX6 hown hK hP hD hS 0 rfl rfl 0 (by decide) (hts _ u_1075) (fun _ h9 => h9) rfl (by decide +kernel) rfl rfl (Nat.le_of_ble_eq_true rfl) dX6_readDigit_30 (fun H locs hP hD hS => ?_)
      have hP : va_P G.1 vwCl (fl [[(qh0, .inr (9, [.int (q.1 + (1 : Int32)), .int q.2.1, .int q.2.2.1, .int q.2.2.2, .ref sbh0]))], [(sbh0, .inr (1, [.ref sbh1, .int (0 : Int32), .int sb.2.2.1, .int sb.2.2.2]))], [(sbh1, .inl (G.2.1 2, sb.1, .inl sb.2.1))]]) H := hP
      have hD : va_D A (fl [[(qh0, .inr (9, [.int (q.1 + (1 : Int32)), .int q.2.1, .int q.2.2.1, .int q.2.2.2, .ref sbh0]))], [(sbh0, .inr (1, [.ref sbh1, .int (0 : Int32), .int sb.2.2.1, .int sb.2.2.2]))], [(sbh1, .inl (G.2.1 2, sb.1, .inl sb.2.1))]]) := hD
      refine lv_iload_n hx hb dX6_readDigit_33 rfl (lv_at hl 0 rfl) ?_
      refine lv_bipush (v := (48 : Int32)) hx hb dX6_readDigit_34 (by decide) ?_
      refine lv_isub hx hb dX6_readDigit_36 ?_
      exact w_ret (u := (((f_X6_signAt q sb q.1) - (48 : Int32)), ((q.1 + (1 : Int32)), q.2.1, q.2.2.1, q.2.2.2))) hx hb hr hlk rfl hS rfl hF.symm hP hD (Nat.le_of_ble_eq_true rfl) (Nat.le_of_ble_eq_true rfl) dX6_readDigit_37
    · have hF := hF.trans (if_neg c_4)
      refine lv_iconst (v := (-1 : Int32)) hx hb dX6_readDigit_21 (by decide) ?_
      exact w_ret (u := ((-1 : Int32), q)) hx hb hr hlk rfl hS rfl hF.symm hP hD (Nat.le_of_ble_eq_true rfl) (Nat.le_of_ble_eq_true rfl) dX6_readDigit_22
theorem dX6_readNumber_0 : decode cX6_readNumber 0 = .ok (.aload_n 0, 1) := by decide +kernel
theorem dX6_readNumber_1 : decode cX6_readNumber 1 = .ok (.invokevirtual 84, 3) := by decide +kernel
theorem u_1358 : Cond.methodLink RX6 84 yX6_readDigit ∈ UW := uw 1358 (by decide +kernel) rfl
theorem u_1360 : Cond.instanceMethod yX6_readDigit ∈ UW := uw 1360 (by decide +kernel) rfl
theorem u_13 : Cond.selects RX6 yX6_readDigit yX6_readDigit ∈ UW := uw 13 (by decide +kernel) rfl
theorem u_1361 : Cond.code yX6_readDigit cX6_readDigit 2 (some .int) ∈ UW := uw 1361 (by decide +kernel) rfl
theorem g_X6_84 : GoodIn UW (wsV RX6 84 RX6 yX6_readDigit (wsU yX6_readDigit cX6_readDigit 2 (some .int))) := gV u_1358 u_1360 u_13 u_28 u_1361
theorem hdv_X6_readDigit : yX6_readDigit.cls = RX6 ∧ yX6_readDigit.cls ≠ "java/lang/invoke/MethodHandle" ∧ yX6_readDigit.cls ≠ "java/lang/invoke/VarHandle" ∧ (parseMethodDescriptor yX6_readDigit.desc).map (fun d => d.parameters.length) = some 0 := by decide +kernel
theorem dX6_readNumber_4 : decode cX6_readNumber 4 = .ok (.istore_n 1, 1) := by decide +kernel
theorem dX6_readNumber_5 : decode cX6_readNumber 5 = .ok (.iconst 1, 1) := by decide +kernel
theorem dX6_readNumber_6 : decode cX6_readNumber 6 = .ok (.istore_n 2, 1) := by decide +kernel
theorem dX6_readNumber_7 : decode cX6_readNumber 7 = .ok (.iload_n 2, 1) := by decide +kernel
theorem dX6_readNumber_8 : decode cX6_readNumber 8 = .ok (.iconst 3, 1) := by decide +kernel
theorem dX6_readNumber_9 : decode cX6_readNumber 9 = .ok (.if_icmp .ge 33, 3) := by decide +kernel
theorem dX6_readNumber_42 : decode cX6_readNumber 42 = .ok (.iload_n 1, 1) := by decide +kernel
theorem dX6_readNumber_43 : decode cX6_readNumber 43 = .ok (.ireturn, 1) := by decide +kernel
theorem dX6_readNumber_12 : decode cX6_readNumber 12 = .ok (.iload_n 1, 1) := by decide +kernel
theorem dX6_readNumber_13 : decode cX6_readNumber 13 = .ok (.iconst (-1), 1) := by decide +kernel
theorem dX6_readNumber_14 : decode cX6_readNumber 14 = .ok (.if_icmp .eq 28, 3) := by decide +kernel
theorem dX6_readNumber_17 : decode cX6_readNumber 17 = .ok (.aload_n 0, 1) := by decide +kernel
theorem dX6_readNumber_18 : decode cX6_readNumber 18 = .ok (.invokevirtual 84, 3) := by decide +kernel
theorem dX6_readNumber_21 : decode cX6_readNumber 21 = .ok (.istore_n 3, 1) := by decide +kernel
theorem dX6_readNumber_22 : decode cX6_readNumber 22 = .ok (.iload_n 3, 1) := by decide +kernel
theorem dX6_readNumber_23 : decode cX6_readNumber 23 = .ok (.iconst (-1), 1) := by decide +kernel
theorem dX6_readNumber_24 : decode cX6_readNumber 24 = .ok (.if_icmp .ne 5, 3) := by decide +kernel
theorem dX6_readNumber_29 : decode cX6_readNumber 29 = .ok (.iload_n 1, 1) := by decide +kernel
theorem dX6_readNumber_30 : decode cX6_readNumber 30 = .ok (.bipush 10, 2) := by decide +kernel
theorem dX6_readNumber_32 : decode cX6_readNumber 32 = .ok (.imul, 1) := by decide +kernel
theorem dX6_readNumber_33 : decode cX6_readNumber 33 = .ok (.iload_n 3, 1) := by decide +kernel
theorem dX6_readNumber_34 : decode cX6_readNumber 34 = .ok (.iadd, 1) := by decide +kernel
theorem dX6_readNumber_35 : decode cX6_readNumber 35 = .ok (.istore_n 1, 1) := by decide +kernel
theorem dX6_readNumber_36 : decode cX6_readNumber 36 = .ok (.iinc 2 1, 3) := by decide +kernel
theorem dX6_readNumber_39 : decode cX6_readNumber 39 = .ok (.goto (-32), 3) := by decide +kernel
theorem dX6_readNumber_27 : decode cX6_readNumber 27 = .ok (.iload_n 1, 1) := by decide +kernel
theorem dX6_readNumber_28 : decode cX6_readNumber 28 = .ok (.ireturn, 1) := by decide +kernel
def lp_X6_readNumber_7 (q : PrV) (sb : SbV) (u_3 : Int32 × PrV) : Nat → Int32 → Int32 → PrV → Int32 × PrV
  | 0, _, _, _ => (0, q)
  | n + 1, x2, x1, qL => (if (3 : Int32) ≤ x2 then (x1, qL) else (if x1 = (-1 : Int32) then (x1, qL) else (let u_8 : Int32 × PrV := (f_X6_readDigit qL sb); (if u_8.1 = (-1 : Int32) then (x1, u_8.2) else (lp_X6_readNumber_7 q sb u_3 n (x2 + 1) ((x1 * (10 : Int32)) + u_8.1) u_8.2)))))
def okl_lp_X6_readNumber_7 (q : PrV) (sb : SbV) (u_3 : Int32 × PrV) : Nat → Int32 → Int32 → PrV → Prop
  | 0, _, _, _ => True
  | n + 1, x2, x1, qL => (if (3 : Int32) ≤ x2 then True else (if x1 = (-1 : Int32) then True else (ok_X6_readDigit qL sb ∧ (let u_8 : Int32 × PrV := (f_X6_readDigit qL sb); (if u_8.1 = (-1 : Int32) then True else (okl_lp_X6_readNumber_7 q sb u_3 n (x2 + 1) ((x1 * (10 : Int32)) + u_8.1) u_8.2))))))
def f_X6_readNumber (q : PrV) (sb : SbV) : Int32 × PrV := (let u_3 : Int32 × PrV := (f_X6_readDigit q sb); (lp_X6_readNumber_7 q sb u_3 ((((3 : Int32)).toInt - ((1 : Int32)).toInt).toNat + 1) (1 : Int32) u_3.1 u_3.2))
def ok_X6_readNumber (q : PrV) (sb : SbV) : Prop := (ok_X6_readDigit q sb ∧ (let u_3 : Int32 × PrV := (f_X6_readDigit q sb); (okl_lp_X6_readNumber_7 q sb u_3 ((((3 : Int32)).toInt - ((1 : Int32)).toInt).toNat + 1) (1 : Int32) u_3.1 u_3.2)))
set_option maxHeartbeats 4000000 in
set_option maxRecDepth 100000 in
theorem c_X6_readNumber (l : Launch) (G : GG) (qh0 : Nat) (sbh0 : Nat) (sbh1 : Nat) (sz : Nat) (q : PrV) (sb : SbV) (hok : ok_X6_readNumber q sb) : wMet l yX6_readNumber cX6_readNumber 4 (some .int) 7 0 0 G (fl [[(qh0, .inr (9, [.int q.1, .int q.2.1, .int q.2.2.1, .int q.2.2.2, .ref sbh0]))], [(sbh0, .inr (1, [.ref sbh1, .int (0 : Int32), .int sb.2.2.1, .int sb.2.2.2]))], [(sbh1, .inl (G.2.1 2, sb.1, .inl sb.2.1))]]) [.ref qh0] sz (fun u : Int32 × PrV => some (.int u.1)) (fun u : Int32 × PrV => u = f_X6_readNumber q sb) (fun u : Int32 × PrV => fl [[(qh0, .inr (9, [.int u.2.1, .int u.2.2.1, .int u.2.2.2.1, .int u.2.2.2.2, .ref sbh0]))], [(sbh0, .inr (1, [.ref sbh1, .int (0 : Int32), .int sb.2.2.1, .int sb.2.2.2]))], [(sbh1, .inl (G.2.1 2, sb.1, .inl sb.2.1))]]) := by
  refine w_start (by decide +kernel) (Nat.le_of_ble_eq_true rfl) ?_
  intro p e s m below meth c A hx hb hr hml hts hown hlk hin hP hD hA hK hST ls hl
  have hS : va_S A s.heap s.heap [] := va_S.rf
  have hown : s.vm.findClass RX6 = some m.cls := hown
  have hl : lv_has ls 4 [(0, .ref qh0)] := hl
  have hF : f_X6_readNumber q sb = (let u_3 : Int32 × PrV := (f_X6_readDigit q sb); (lp_X6_readNumber_7 q sb u_3 ((((3 : Int32)).toInt - ((1 : Int32)).toInt).toNat + 1) (1 : Int32) u_3.1 u_3.2)) := rfl
  have hok : (ok_X6_readDigit q sb ∧ (let u_3 : Int32 × PrV := (f_X6_readDigit q sb); (okl_lp_X6_readNumber_7 q sb u_3 ((((3 : Int32)).toInt - ((1 : Int32)).toInt).toNat + 1) (1 : Int32) u_3.1 u_3.2))) := hok
  refine lv_aload_n hx hb dX6_readNumber_0 rfl (lv_at hl 0 rfl) ?_
  have k_1 := hok.1
  have hok := hok.2
  refine w_V (own := RX6) (cs := [[(qh0, .inr (9, [.int q.1, .int q.2.1, .int q.2.2.1, .int q.2.2.2, .ref sbh0]))], [(sbh0, .inr (1, [.ref sbh1, .int (0 : Int32), .int sb.2.2.1, .int sb.2.2.2]))], [(sbh1, .inl (G.2.1 2, sb.1, .inl sb.2.1))]]) (rs := []) (As := []) (rest := []) (c_X6_readDigit l G qh0 sbh0 sbh1 s.heap.size q sb k_1) ⟨hx, hb, hml, hown, hts⟩ g_X6_84 hdv_X6_readDigit hK hST hS hP hD hA [0, 1, 2] [] rfl rfl rfl (k0 := 0) rfl rfl rfl ⟨Nat.le_of_ble_eq_true rfl, Nat.le_of_ble_eq_true rfl⟩ ⟨Nat.le_of_ble_eq_true rfl, Nat.le_of_ble_eq_true rfl⟩ rfl hl.1 rfl (Nat.le_of_ble_eq_true rfl) dX6_readNumber_1 (fun u_3 H locs huu hP hD hS => ?_)
  have eu_3 := huu
  have hP : va_P G.1 vwCl (fl [[(qh0, .inr (9, [.int u_3.2.1, .int u_3.2.2.1, .int u_3.2.2.2.1, .int u_3.2.2.2.2, .ref sbh0]))], [(sbh0, .inr (1, [.ref sbh1, .int (0 : Int32), .int sb.2.2.1, .int sb.2.2.2]))], [(sbh1, .inl (G.2.1 2, sb.1, .inl sb.2.1))]]) H := hP
  have hD : va_D A (fl [[(qh0, .inr (9, [.int u_3.2.1, .int u_3.2.2.1, .int u_3.2.2.2.1, .int u_3.2.2.2.2, .ref sbh0]))], [(sbh0, .inr (1, [.ref sbh1, .int (0 : Int32), .int sb.2.2.1, .int sb.2.2.2]))], [(sbh1, .inl (G.2.1 2, sb.1, .inl sb.2.1))]]) := hD
  refine W.eq (g2 := F0 m 4 ls [.int u_3.1]) rfl ?_
  have hF : f_X6_readNumber q sb = (lp_X6_readNumber_7 q sb u_3 ((((3 : Int32)).toInt - ((1 : Int32)).toInt).toNat + 1) (1 : Int32) u_3.1 u_3.2) := by subst eu_3; exact hF
  have hok : (okl_lp_X6_readNumber_7 q sb u_3 ((((3 : Int32)).toInt - ((1 : Int32)).toInt).toNat + 1) (1 : Int32) u_3.1 u_3.2) := by subst eu_3; exact hok
  refine lv_istore_n (lv' := [(1, .int u_3.1), (0, .ref qh0)]) hx hb dX6_readNumber_4 rfl hl (by decide) rfl (fun ls hl => ?_)
  refine lv_iconst (v := (1 : Int32)) hx hb dX6_readNumber_5 (by decide) ?_
  refine lv_istore_n (lv' := [(2, .int (1 : Int32)), (1, .int u_3.1), (0, .ref qh0)]) hx hb dX6_readNumber_6 rfl hl (by decide) rfl (fun ls hl => ?_)
  have L7 : ∀ (n : Nat) (x2 : Int32) (x1 : Int32) (qL : PrV) (H : Heap) (locs : List Loc) (ls : Array Slot), lv_has ls 4 [(2, .int x2), (1, .int x1), (0, .ref qh0)] → va_P G.1 vwCl (fl [[(qh0, .inr (9, [.int qL.1, .int qL.2.1, .int qL.2.2.1, .int qL.2.2.2, .ref sbh0]))], [(sbh0, .inr (1, [.ref sbh1, .int (0 : Int32), .int sb.2.2.1, .int sb.2.2.2]))], [(sbh1, .inl (G.2.1 2, sb.1, .inl sb.2.1))]]) H → va_D A (fl [[(qh0, .inr (9, [.int qL.1, .int qL.2.1, .int qL.2.2.1, .int qL.2.2.2, .ref sbh0]))], [(sbh0, .inr (1, [.ref sbh1, .int (0 : Int32), .int sb.2.2.1, .int sb.2.2.2]))], [(sbh1, .inl (G.2.1 2, sb.1, .inl sb.2.1))]]) → va_S A s.heap H locs → (upI x2 (3 : Int32) n) → f_X6_readNumber q sb = lp_X6_readNumber_7 q sb u_3 n x2 x1 qL → okl_lp_X6_readNumber_7 q sb u_3 n x2 x1 qL → W p l e (rmd 7 0 0) s m ([.ref qh0] : List Value).toArray below meth c H locs 0 0 (MQ below (wQ (fun u : Int32 × PrV => some (.int u.1)) (fun u : Int32 × PrV => u = f_X6_readNumber q sb) (fun u : Int32 × PrV => fl [[(qh0, .inr (9, [.int u.2.1, .int u.2.2.1, .int u.2.2.2.1, .int u.2.2.2.2, .ref sbh0]))], [(sbh0, .inr (1, [.ref sbh1, .int (0 : Int32), .int sb.2.2.1, .int sb.2.2.2]))], [(sbh1, .inl (G.2.1 2, sb.1, .inl sb.2.1))]]) G.1 A) ([.ref qh0] : List Value).toArray s 0 0 A) (F0 m 7 ls []) := by
    intro n
    induction n with
    | zero => intro x2 x1 qL H locs ls hl _ _ _ hu; exact absurd hu (upI_0)
    | succ n ih =>
      intro x2 x1 qL H locs ls hl hP hD hS hu hF hok
      have hF : f_X6_readNumber q sb = (if (3 : Int32) ≤ x2 then (x1, qL) else (if x1 = (-1 : Int32) then (x1, qL) else (let u_8 : Int32 × PrV := (f_X6_readDigit qL sb); (if u_8.1 = (-1 : Int32) then (x1, u_8.2) else (lp_X6_readNumber_7 q sb u_3 n (x2 + 1) ((x1 * (10 : Int32)) + u_8.1) u_8.2))))) := hF
      have hok : (if (3 : Int32) ≤ x2 then True else (if x1 = (-1 : Int32) then True else (ok_X6_readDigit qL sb ∧ (let u_8 : Int32 × PrV := (f_X6_readDigit qL sb); (if u_8.1 = (-1 : Int32) then True else (okl_lp_X6_readNumber_7 q sb u_3 n (x2 + 1) ((x1 * (10 : Int32)) + u_8.1) u_8.2)))))) := hok
      refine lv_iload_n hx hb dX6_readNumber_7 rfl (lv_at hl 0 rfl) ?_
      refine lv_iconst (v := (3 : Int32)) hx hb dX6_readNumber_8 (by decide) ?_
      refine lv_icmp_ge (tgt := 42) hx hb dX6_readNumber_9 (by decide) (fun c_4 => ?_) (fun c_4 => ?_)
      · have hF := hF.trans (if_pos c_4)
        have hok := Eq.mp (if_pos c_4) hok
        refine lv_iload_n hx hb dX6_readNumber_42 rfl (lv_at hl 1 rfl) ?_
        exact w_ret (u := (x1, qL)) hx hb hr hlk rfl hS rfl hF.symm hP hD (Nat.le_of_ble_eq_true rfl) (Nat.le_of_ble_eq_true rfl) dX6_readNumber_43
      · have hF := hF.trans (if_neg c_4)
        have hok := Eq.mp (if_neg c_4) hok
        refine lv_iload_n hx hb dX6_readNumber_12 rfl (lv_at hl 1 rfl) ?_
        refine lv_iconst (v := (-1 : Int32)) hx hb dX6_readNumber_13 (by decide) ?_
        refine lv_icmp_eq (tgt := 42) hx hb dX6_readNumber_14 (by decide) (fun c_5 => ?_) (fun c_5 => ?_)
        · have hF := hF.trans (if_pos c_5)
          have hok := Eq.mp (if_pos c_5) hok
          refine lv_iload_n hx hb dX6_readNumber_42 rfl (lv_at hl 1 rfl) ?_
          exact w_ret (u := (x1, qL)) hx hb hr hlk rfl hS rfl hF.symm hP hD (Nat.le_of_ble_eq_true rfl) (Nat.le_of_ble_eq_true rfl) dX6_readNumber_43
        · have hF := hF.trans (if_neg c_5)
          have hok := Eq.mp (if_neg c_5) hok
          refine lv_aload_n hx hb dX6_readNumber_17 rfl (lv_at hl 2 rfl) ?_
          have k_6 := hok.1
          have hok := hok.2
          refine w_V (own := RX6) (cs := [[(qh0, .inr (9, [.int qL.1, .int qL.2.1, .int qL.2.2.1, .int qL.2.2.2, .ref sbh0]))], [(sbh0, .inr (1, [.ref sbh1, .int (0 : Int32), .int sb.2.2.1, .int sb.2.2.2]))], [(sbh1, .inl (G.2.1 2, sb.1, .inl sb.2.1))]]) (rs := []) (As := []) (rest := []) (c_X6_readDigit l G qh0 sbh0 sbh1 H.size qL sb k_6) ⟨hx, hb, hml, hown, hts⟩ g_X6_84 hdv_X6_readDigit hK hST hS hP hD hA [0, 1, 2] [] rfl rfl rfl (k0 := 0) rfl rfl rfl ⟨Nat.le_of_ble_eq_true rfl, Nat.le_of_ble_eq_true rfl⟩ ⟨Nat.le_of_ble_eq_true rfl, Nat.le_of_ble_eq_true rfl⟩ rfl hl.1 rfl (Nat.le_of_ble_eq_true rfl) dX6_readNumber_18 (fun u_8 H locs huu hP hD hS => ?_)
          have eu_8 := huu
          have hP : va_P G.1 vwCl (fl [[(qh0, .inr (9, [.int u_8.2.1, .int u_8.2.2.1, .int u_8.2.2.2.1, .int u_8.2.2.2.2, .ref sbh0]))], [(sbh0, .inr (1, [.ref sbh1, .int (0 : Int32), .int sb.2.2.1, .int sb.2.2.2]))], [(sbh1, .inl (G.2.1 2, sb.1, .inl sb.2.1))]]) H := hP
          have hD : va_D A (fl [[(qh0, .inr (9, [.int u_8.2.1, .int u_8.2.2.1, .int u_8.2.2.2.1, .int u_8.2.2.2.2, .ref sbh0]))], [(sbh0, .inr (1, [.ref sbh1, .int (0 : Int32), .int sb.2.2.1, .int sb.2.2.2]))], [(sbh1, .inl (G.2.1 2, sb.1, .inl sb.2.1))]]) := hD
          refine W.eq (g2 := F0 m 21 ls [.int u_8.1]) rfl ?_
          have hF : f_X6_readNumber q sb = (if u_8.1 = (-1 : Int32) then (x1, u_8.2) else (lp_X6_readNumber_7 q sb u_3 n (x2 + 1) ((x1 * (10 : Int32)) + u_8.1) u_8.2)) := by subst eu_8; exact hF
          have hok : (if u_8.1 = (-1 : Int32) then True else (okl_lp_X6_readNumber_7 q sb u_3 n (x2 + 1) ((x1 * (10 : Int32)) + u_8.1) u_8.2)) := by subst eu_8; exact hok
          refine lv_istore_n (lv' := [(3, .int u_8.1), (2, .int x2), (1, .int x1), (0, .ref qh0)]) hx hb dX6_readNumber_21 rfl hl (by decide) rfl (fun ls hl => ?_)
          refine lv_iload_n hx hb dX6_readNumber_22 rfl (lv_at hl 0 rfl) ?_
          refine lv_iconst (v := (-1 : Int32)) hx hb dX6_readNumber_23 (by decide) ?_
          refine lv_icmp_ne (tgt := 29) hx hb dX6_readNumber_24 (by decide) (fun c_9 => ?_) (fun c_9 => ?_)
          · have hF := hF.trans (if_neg c_9)
            have hok := Eq.mp (if_neg c_9) hok
            refine lv_iload_n hx hb dX6_readNumber_29 rfl (lv_at hl 2 rfl) ?_
            refine lv_bipush (v := (10 : Int32)) hx hb dX6_readNumber_30 (by decide) ?_
            refine lv_imul hx hb dX6_readNumber_32 ?_
            refine lv_iload_n hx hb dX6_readNumber_33 rfl (lv_at hl 0 rfl) ?_
            refine lv_iadd hx hb dX6_readNumber_34 ?_
            refine lv_istore_n (lv' := [(1, .int ((x1 * (10 : Int32)) + u_8.1)), (3, .int u_8.1), (2, .int x2), (0, .ref qh0)]) hx hb dX6_readNumber_35 rfl hl (by decide) rfl (fun ls hl => ?_)
            refine lv_iinc (v := (x2 + 1)) (lv' := [(2, .int (x2 + 1)), (1, .int ((x1 * (10 : Int32)) + u_8.1)), (3, .int u_8.1), (0, .ref qh0)]) hx hb dX6_readNumber_36 hl (k := 2) rfl rfl (by decide) rfl (fun ls hl => ?_)
            refine lv_goto (tgt := 7) hx hb dX6_readNumber_39 (by decide) ?_
            exact ih (x2 + 1) ((x1 * (10 : Int32)) + u_8.1) u_8.2 _ _ ls (lv_sub hl [0, 1, 3] rfl) hP hD hS (upI_s (Int32.not_le.mp c_4) hu) hF hok
          · have hF := hF.trans (if_pos c_9)
            have hok := Eq.mp (if_pos c_9) hok
            refine lv_iload_n hx hb dX6_readNumber_27 rfl (lv_at hl 2 rfl) ?_
            exact w_ret (u := (x1, u_8.2)) hx hb hr hlk rfl hS rfl hF.symm hP hD (Nat.le_of_ble_eq_true rfl) (Nat.le_of_ble_eq_true rfl) dX6_readNumber_28
  exact L7 ((((3 : Int32)).toInt - ((1 : Int32)).toInt).toNat + 1) (1 : Int32) u_3.1 u_3.2 _ _ ls (lv_sub hl [0, 1, 2] rfl) hP hD hS (upI_i) hF hok
theorem dX6_wordOf_0 : decode cX6_wordOf 0 = .ok (.iload_n 0, 1) := by decide +kernel
theorem dX6_wordOf_1 : decode cX6_wordOf 1 = .ok (.tableswitch 64 0 6 #[43, 46, 49, 52, 55, 58, 61], 43) := by decide +kernel
theorem dX6_wordOf_44 : decode cX6_wordOf 44 = .ok (.ldc 91, 2) := by decide +kernel
theorem dX6_wordOf_46 : decode cX6_wordOf 46 = .ok (.areturn, 1) := by decide +kernel
theorem dX6_wordOf_47 : decode cX6_wordOf 47 = .ok (.ldc 93, 2) := by decide +kernel
theorem dX6_wordOf_49 : decode cX6_wordOf 49 = .ok (.areturn, 1) := by decide +kernel
theorem dX6_wordOf_50 : decode cX6_wordOf 50 = .ok (.ldc 95, 2) := by decide +kernel
theorem dX6_wordOf_52 : decode cX6_wordOf 52 = .ok (.areturn, 1) := by decide +kernel
theorem dX6_wordOf_53 : decode cX6_wordOf 53 = .ok (.ldc 97, 2) := by decide +kernel
theorem dX6_wordOf_55 : decode cX6_wordOf 55 = .ok (.areturn, 1) := by decide +kernel
theorem dX6_wordOf_56 : decode cX6_wordOf 56 = .ok (.ldc 99, 2) := by decide +kernel
theorem dX6_wordOf_58 : decode cX6_wordOf 58 = .ok (.areturn, 1) := by decide +kernel
theorem dX6_wordOf_59 : decode cX6_wordOf 59 = .ok (.ldc 101, 2) := by decide +kernel
theorem dX6_wordOf_61 : decode cX6_wordOf 61 = .ok (.areturn, 1) := by decide +kernel
theorem dX6_wordOf_62 : decode cX6_wordOf 62 = .ok (.ldc 103, 2) := by decide +kernel
theorem dX6_wordOf_64 : decode cX6_wordOf 64 = .ok (.areturn, 1) := by decide +kernel
theorem dX6_wordOf_65 : decode cX6_wordOf 65 = .ok (.ldc 105, 2) := by decide +kernel
theorem dX6_wordOf_67 : decode cX6_wordOf 67 = .ok (.areturn, 1) := by decide +kernel
def f_X6_wordOf (x : Int32) : Nat := (if x = (0 : Int32) then 0 else (if x = (1 : Int32) then 1 else (if x = (2 : Int32) then 2 else (if x = (3 : Int32) then 3 else (if x = (4 : Int32) then 4 else (if x = (5 : Int32) then 5 else (if x = (6 : Int32) then 6 else 7)))))))
set_option maxHeartbeats 4000000 in
set_option maxRecDepth 100000 in
theorem c_X6_wordOf (l : Launch) (G : GG)  (x : Int32) : rMet l yX6_wordOf cX6_wordOf 1 (some (.object "java/lang/String")) 1 G (fl []) [.int x] (some (.ref (G.2.2.1 (10 + (f_X6_wordOf x))))) (sOK (f_X6_wordOf x)) := by
  refine r_start (by decide +kernel) (Nat.le_of_ble_eq_true rfl) ?_
  intro p e s m below meth c hx hb hr hml hts hown hlk hP hK hST ls hl
  have hS : va_S (fun _ => False) s.heap s.heap [] := va_S.rf
  have hown : s.vm.findClass RX6 = some m.cls := hown
  have hl : lv_has ls 1 [(0, .int x)] := hl
  have hF : f_X6_wordOf x = (if x = (0 : Int32) then 0 else (if x = (1 : Int32) then 1 else (if x = (2 : Int32) then 2 else (if x = (3 : Int32) then 3 else (if x = (4 : Int32) then 4 else (if x = (5 : Int32) then 5 else (if x = (6 : Int32) then 6 else 7))))))) := rfl
  refine lv_iload_n hx hb dX6_wordOf_0 rfl (lv_at hl 0 rfl) ?_
  by_cases c_1 : x = (0 : Int32)
  · have hF := hF.trans (if_pos c_1)
    refine lv_tableIn (off := 43) (tgt := 44) hx hb dX6_wordOf_1 (by rw [c_1]; decide) (by rw [c_1]; decide) (by rw [c_1]; rfl) (by decide) ?_
    refine va_ldcS (own := RX6) (tx := "give ") (q := G.2.2.1 (10 + 0)) hx hb hown (hST.str (by decide +kernel)) dX6_wordOf_44 ?_
    exact r_retA hx hb hr hlk (Or.inl ⟨_, rfl⟩) (Or.inr ⟨_, rfl⟩) (by rw [hF]) (by rw [hF]; exact ((by decide) : sOK 0)) dX6_wordOf_46
  · have hF := hF.trans (if_neg c_1)
    by_cases c_2 : x = (1 : Int32)
    · have hF := hF.trans (if_pos c_2)
      refine lv_tableIn (off := 46) (tgt := 47) hx hb dX6_wordOf_1 (by rw [c_2]; decide) (by rw [c_2]; decide) (by rw [c_2]; rfl) (by decide) ?_
      refine va_ldcS (own := RX6) (tx := "take ") (q := G.2.2.1 (10 + 1)) hx hb hown (hST.str (by decide +kernel)) dX6_wordOf_47 ?_
      exact r_retA hx hb hr hlk (Or.inl ⟨_, rfl⟩) (Or.inr ⟨_, rfl⟩) (by rw [hF]) (by rw [hF]; exact ((by decide) : sOK 1)) dX6_wordOf_49
    · have hF := hF.trans (if_neg c_2)
      by_cases c_3 : x = (2 : Int32)
      · have hF := hF.trans (if_pos c_3)
        refine lv_tableIn (off := 49) (tgt := 50) hx hb dX6_wordOf_1 (by rw [c_3]; decide) (by rw [c_3]; decide) (by rw [c_3]; rfl) (by decide) ?_
        refine va_ldcS (own := RX6) (tx := "try ") (q := G.2.2.1 (10 + 2)) hx hb hown (hST.str (by decide +kernel)) dX6_wordOf_50 ?_
        exact r_retA hx hb hr hlk (Or.inl ⟨_, rfl⟩) (Or.inr ⟨_, rfl⟩) (by rw [hF]) (by rw [hF]; exact ((by decide) : sOK 2)) dX6_wordOf_52
      · have hF := hF.trans (if_neg c_3)
        by_cases c_4 : x = (3 : Int32)
        · have hF := hF.trans (if_pos c_4)
          refine lv_tableIn (off := 52) (tgt := 53) hx hb dX6_wordOf_1 (by rw [c_4]; decide) (by rw [c_4]; decide) (by rw [c_4]; rfl) (by decide) ?_
          refine va_ldcS (own := RX6) (tx := "open ") (q := G.2.2.1 (10 + 3)) hx hb hown (hST.str (by decide +kernel)) dX6_wordOf_53 ?_
          exact r_retA hx hb hr hlk (Or.inl ⟨_, rfl⟩) (Or.inr ⟨_, rfl⟩) (by rw [hF]) (by rw [hF]; exact ((by decide) : sOK 3)) dX6_wordOf_55
        · have hF := hF.trans (if_neg c_4)
          by_cases c_5 : x = (4 : Int32)
          · have hF := hF.trans (if_pos c_5)
            refine lv_tableIn (off := 55) (tgt := 56) hx hb dX6_wordOf_1 (by rw [c_5]; decide) (by rw [c_5]; decide) (by rw [c_5]; rfl) (by decide) ?_
            refine va_ldcS (own := RX6) (tx := "shut ") (q := G.2.2.1 (10 + 4)) hx hb hown (hST.str (by decide +kernel)) dX6_wordOf_56 ?_
            exact r_retA hx hb hr hlk (Or.inl ⟨_, rfl⟩) (Or.inr ⟨_, rfl⟩) (by rw [hF]) (by rw [hF]; exact ((by decide) : sOK 4)) dX6_wordOf_58
          · have hF := hF.trans (if_neg c_5)
            by_cases c_6 : x = (5 : Int32)
            · have hF := hF.trans (if_pos c_6)
              refine lv_tableIn (off := 58) (tgt := 59) hx hb dX6_wordOf_1 (by rw [c_6]; decide) (by rw [c_6]; decide) (by rw [c_6]; rfl) (by decide) ?_
              refine va_ldcS (own := RX6) (tx := "lift ") (q := G.2.2.1 (10 + 5)) hx hb hown (hST.str (by decide +kernel)) dX6_wordOf_59 ?_
              exact r_retA hx hb hr hlk (Or.inl ⟨_, rfl⟩) (Or.inr ⟨_, rfl⟩) (by rw [hF]) (by rw [hF]; exact ((by decide) : sOK 5)) dX6_wordOf_61
            · have hF := hF.trans (if_neg c_6)
              by_cases c_7 : x = (6 : Int32)
              · have hF := hF.trans (if_pos c_7)
                refine lv_tableIn (off := 61) (tgt := 62) hx hb dX6_wordOf_1 (by rw [c_7]; decide) (by rw [c_7]; decide) (by rw [c_7]; rfl) (by decide) ?_
                refine va_ldcS (own := RX6) (tx := "moon ") (q := G.2.2.1 (10 + 6)) hx hb hown (hST.str (by decide +kernel)) dX6_wordOf_62 ?_
                exact r_retA hx hb hr hlk (Or.inl ⟨_, rfl⟩) (Or.inr ⟨_, rfl⟩) (by rw [hF]) (by rw [hF]; exact ((by decide) : sOK 6)) dX6_wordOf_64
              · have hF := hF.trans (if_neg c_7)
                refine lv_tableOut (tgt := 65) hx hb dX6_wordOf_1 (by
                    have g0 : (x).toInt ≠ 0 := fun e => c_1 (Int32.toInt_inj.mp (e.trans (by decide)))
                    have g1 : (x).toInt ≠ 1 := fun e => c_2 (Int32.toInt_inj.mp (e.trans (by decide)))
                    have g2 : (x).toInt ≠ 2 := fun e => c_3 (Int32.toInt_inj.mp (e.trans (by decide)))
                    have g3 : (x).toInt ≠ 3 := fun e => c_4 (Int32.toInt_inj.mp (e.trans (by decide)))
                    have g4 : (x).toInt ≠ 4 := fun e => c_5 (Int32.toInt_inj.mp (e.trans (by decide)))
                    have g5 : (x).toInt ≠ 5 := fun e => c_6 (Int32.toInt_inj.mp (e.trans (by decide)))
                    have g6 : (x).toInt ≠ 6 := fun e => c_7 (Int32.toInt_inj.mp (e.trans (by decide)))
                    omega) (by decide) ?_
                refine va_ldcS (own := RX6) (tx := "wait ") (q := G.2.2.1 (10 + 7)) hx hb hown (hST.str (by decide +kernel)) dX6_wordOf_65 ?_
                exact r_retA hx hb hr hlk (Or.inl ⟨_, rfl⟩) (Or.inr ⟨_, rfl⟩) (by rw [hF]) (by rw [hF]; exact ((by decide) : sOK 7)) dX6_wordOf_67
theorem dX6_countShared_0 : decode cX6_countShared 0 = .ok (.iconst 0, 1) := by decide +kernel
theorem dX6_countShared_1 : decode cX6_countShared 1 = .ok (.istore_n 2, 1) := by decide +kernel
theorem dX6_countShared_2 : decode cX6_countShared 2 = .ok (.iload_n 2, 1) := by decide +kernel
theorem dX6_countShared_3 : decode cX6_countShared 3 = .ok (.aload_n 1, 1) := by decide +kernel
theorem dX6_countShared_4 : decode cX6_countShared 4 = .ok (.invokevirtual 78, 3) := by decide +kernel
theorem u_1337 : Cond.methodLink RX6 78 yJ0_length_8abf5 ∈ UW := uw 1337 (by decide +kernel) rfl
theorem g_X6_78 : GoodIn UW (wsV RX6 78 RJ0 yJ0_length_8abf5 (wsU yJ0_length_8abf5 cJ0_length_8abf5 1 (some .int))) := gV u_1337 u_277 u_278 u_31 u_279
theorem dX6_countShared_7 : decode cX6_countShared 7 = .ok (.if_icmp .ge 27, 3) := by decide +kernel
theorem dX6_countShared_34 : decode cX6_countShared 34 = .ok (.iload_n 2, 1) := by decide +kernel
theorem dX6_countShared_35 : decode cX6_countShared 35 = .ok (.ireturn, 1) := by decide +kernel
theorem dX6_countShared_10 : decode cX6_countShared 10 = .ok (.aload_n 0, 1) := by decide +kernel
theorem dX6_countShared_11 : decode cX6_countShared 11 = .ok (.aload_n 0, 1) := by decide +kernel
theorem dX6_countShared_12 : decode cX6_countShared 12 = .ok (.getfield 9, 3) := by decide +kernel
theorem dX6_countShared_15 : decode cX6_countShared 15 = .ok (.iload_n 2, 1) := by decide +kernel
theorem dX6_countShared_16 : decode cX6_countShared 16 = .ok (.iadd, 1) := by decide +kernel
theorem dX6_countShared_17 : decode cX6_countShared 17 = .ok (.invokevirtual 60, 3) := by decide +kernel
theorem dX6_countShared_20 : decode cX6_countShared 20 = .ok (.aload_n 1, 1) := by decide +kernel
theorem dX6_countShared_21 : decode cX6_countShared 21 = .ok (.iload_n 2, 1) := by decide +kernel
theorem dX6_countShared_22 : decode cX6_countShared 22 = .ok (.invokevirtual 81, 3) := by decide +kernel
theorem u_1352 : Cond.methodLink RX6 81 yJ0_charAt_5068e ∈ UW := uw 1352 (by decide +kernel) rfl
theorem u_1269 : Cond.instanceMethod yJ0_charAt_5068e ∈ UW := uw 1269 (by decide +kernel) rfl
theorem u_1270 : Cond.selects RJ0 yJ0_charAt_5068e yJ0_charAt_5068e ∈ UW := uw 1270 (by decide +kernel) rfl
theorem u_1271 : Cond.code yJ0_charAt_5068e cJ0_charAt_5068e 2 (some .char) ∈ UW := uw 1271 (by decide +kernel) rfl
theorem g_X6_81 : GoodIn UW (wsV RX6 81 RJ0 yJ0_charAt_5068e (wsU yJ0_charAt_5068e cJ0_charAt_5068e 2 (some .char))) := gV u_1352 u_1269 u_1270 u_31 u_1271
theorem hdv_J0_charAt_5068e : yJ0_charAt_5068e.cls = RJ0 ∧ yJ0_charAt_5068e.cls ≠ "java/lang/invoke/MethodHandle" ∧ yJ0_charAt_5068e.cls ≠ "java/lang/invoke/VarHandle" ∧ (parseMethodDescriptor yJ0_charAt_5068e.desc).map (fun d => d.parameters.length) = some 1 := by decide +kernel
theorem dX6_countShared_25 : decode cX6_countShared 25 = .ok (.if_icmp .ne 9, 3) := by decide +kernel
theorem dX6_countShared_28 : decode cX6_countShared 28 = .ok (.iinc 2 1, 3) := by decide +kernel
theorem dX6_countShared_31 : decode cX6_countShared 31 = .ok (.goto (-29), 3) := by decide +kernel
def lp_X6_countShared_2 (q : PrV) (sb : SbV) (tj : Nat) : Nat → Int32 → Int32
  | 0, _ => 0
  | n + 1, x2 => (if (f_J0_length_8abf5 tj) ≤ x2 then x2 else (if (f_X6_signAt q sb (q.1 + x2)) = (f_J0_charAt_5068e tj x2) then (lp_X6_countShared_2 q sb tj n (x2 + 1)) else x2))
def okl_lp_X6_countShared_2 (q : PrV) (sb : SbV) (tj : Nat) : Nat → Int32 → Prop
  | 0, _ => False
  | n + 1, x2 => (if (f_J0_length_8abf5 tj) ≤ x2 then True else (ok_X6_signAt q sb (q.1 + x2) ∧ (ok_J0_charAt_5068e tj x2 ∧ (if (f_X6_signAt q sb (q.1 + x2)) = (f_J0_charAt_5068e tj x2) then (okl_lp_X6_countShared_2 q sb tj n (x2 + 1)) else True))))
def f_X6_countShared (q : PrV) (sb : SbV) (tj : Nat) : Int32 := (lp_X6_countShared_2 q sb tj 8 (0 : Int32))
def ok_X6_countShared (q : PrV) (sb : SbV) (tj : Nat) : Prop := (okl_lp_X6_countShared_2 q sb tj 8 (0 : Int32))
set_option maxHeartbeats 4000000 in
set_option maxRecDepth 100000 in
theorem c_X6_countShared (l : Launch) (G : GG) (qh0 : Nat) (sbh0 : Nat) (sbh1 : Nat) (q : PrV) (sb : SbV) (tj : Nat) (hok : ok_X6_countShared q sb tj) (hyp_tj : sOK tj) : rMet l yX6_countShared cX6_countShared 3 (some .int) 6 G (fl [[(qh0, .inr (9, [.int q.1, .int q.2.1, .int q.2.2.1, .int q.2.2.2, .ref sbh0]))], [(sbh0, .inr (1, [.ref sbh1, .int (0 : Int32), .int sb.2.2.1, .int sb.2.2.2]))], [(sbh1, .inl (G.2.1 2, sb.1, .inl sb.2.1))]]) [.ref qh0, .ref (G.2.2.1 (10 + tj))] (some (.int (f_X6_countShared q sb tj))) (True) := by
  refine r_start (by decide +kernel) (Nat.le_of_ble_eq_true rfl) ?_
  intro p e s m below meth c hx hb hr hml hts hown hlk hP hK hST ls hl
  have hS : va_S (fun _ => False) s.heap s.heap [] := va_S.rf
  have hown : s.vm.findClass RX6 = some m.cls := hown
  have hl : lv_has ls 3 [(0, .ref qh0), (1, .ref (G.2.2.1 (10 + tj)))] := hl
  have hF : f_X6_countShared q sb tj = (lp_X6_countShared_2 q sb tj 8 (0 : Int32)) := rfl
  have hok : (okl_lp_X6_countShared_2 q sb tj 8 (0 : Int32)) := hok
  refine lv_iconst (v := (0 : Int32)) hx hb dX6_countShared_0 (by decide) ?_
  refine lv_istore_n (lv' := [(2, .int (0 : Int32)), (0, .ref qh0), (1, .ref (G.2.2.1 (10 + tj)))]) hx hb dX6_countShared_1 rfl hl (by decide) rfl (fun ls hl => ?_)
  have L2 : ∀ (n : Nat) (x2 : Int32) (ls : Array Slot), lv_has ls 3 [(2, .int x2), (0, .ref qh0), (1, .ref (G.2.2.1 (10 + tj)))] → (True) → f_X6_countShared q sb tj = lp_X6_countShared_2 q sb tj n x2 → okl_lp_X6_countShared_2 q sb tj n x2 → W p l e (rmd 6 0 0) s m ([.ref qh0, .ref (G.2.2.1 (10 + tj))] : List Value).toArray below meth c s.heap [] 0 0 (MQ below (rQ (some (.int (f_X6_countShared q sb tj))) (True)) ([.ref qh0, .ref (G.2.2.1 (10 + tj))] : List Value).toArray s 0 0 (fun _ => False)) (F0 m 2 ls []) := by
    intro n
    induction n with
    | zero => intro x2 ls hl hu hF hok; exact hok.elim
    | succ n ih =>
      intro x2 ls hl hu hF hok
      have hF : f_X6_countShared q sb tj = (if (f_J0_length_8abf5 tj) ≤ x2 then x2 else (if (f_X6_signAt q sb (q.1 + x2)) = (f_J0_charAt_5068e tj x2) then (lp_X6_countShared_2 q sb tj n (x2 + 1)) else x2)) := hF
      have hok : (if (f_J0_length_8abf5 tj) ≤ x2 then True else (ok_X6_signAt q sb (q.1 + x2) ∧ (ok_J0_charAt_5068e tj x2 ∧ (if (f_X6_signAt q sb (q.1 + x2)) = (f_J0_charAt_5068e tj x2) then (okl_lp_X6_countShared_2 q sb tj n (x2 + 1)) else True)))) := hok
      refine lv_iload_n hx hb dX6_countShared_2 rfl (lv_at hl 0 rfl) ?_
      refine lv_aload_n hx hb dX6_countShared_3 rfl (lv_at hl 2 rfl) ?_
      refine r_Vs (own := RX6) (v := (some (.int (f_J0_length_8abf5 tj)))) (st1 := [.int (f_J0_length_8abf5 tj), .int x2]) (As := []) (rest := [.int x2]) (c_J0_length_8abf5 l G tj hyp_tj) ⟨hx, hb, hml, hown, hts⟩ g_X6_78 hdv_J0_length_8abf5 hK hST hS hP [] rfl (recv_str hST hS hyp_tj) ⟨Nat.le_of_ble_eq_true rfl, Nat.le_of_ble_eq_true rfl⟩ ⟨Nat.le_of_ble_eq_true rfl, Nat.le_of_ble_eq_true rfl⟩ rfl hl.1 rfl (Nat.le_of_ble_eq_true rfl) dX6_countShared_4 rfl (fun b_1 => ?_)
      refine lv_icmp_ge (tgt := 34) hx hb dX6_countShared_7 (by decide) (fun c_2 => ?_) (fun c_2 => ?_)
      · have hF := hF.trans (if_pos c_2)
        have hok := Eq.mp (if_pos c_2) hok
        refine lv_iload_n hx hb dX6_countShared_34 rfl (lv_at hl 0 rfl) ?_
        exact r_ret hx hb hr hlk rfl (by rw [hF]) trivial dX6_countShared_35
      · have hF := hF.trans (if_neg c_2)
        have hok := Eq.mp (if_neg c_2) hok
        refine lv_aload_n hx hb dX6_countShared_10 rfl (lv_at hl 1 rfl) ?_
        refine lv_aload_n hx hb dX6_countShared_11 rfl (lv_at hl 1 rfl) ?_
        refine va_get (D := G.1) (ci := 9) (v := .int q.1) (C := RX6) (T := TX6) (N := 5) hx hb hts uws_X6 hown hK hP 0 rfl rfl 0 (by decide) (hts _ u_1075) (fun _ h9 => h9) rfl dX6_countShared_12 ?_
        refine lv_iload_n hx hb dX6_countShared_15 rfl (lv_at hl 0 rfl) ?_
        refine lv_iadd hx hb dX6_countShared_16 ?_
        have k_3 := hok.1
        have hok := hok.2
        refine r_V (own := RX6) (v := (some (.int (f_X6_signAt q sb (q.1 + x2))))) (st1 := [.int (f_X6_signAt q sb (q.1 + x2))]) (As := [.int (q.1 + x2)]) (rest := []) (c_X6_signAt l G qh0 sbh0 sbh1 q sb (q.1 + x2) k_3) ⟨hx, hb, hml, hown, hts⟩ g_X6_60 hdv_X6_signAt hK hST hS hP [0, 1, 2] rfl (k0 := 0) rfl rfl rfl ⟨Nat.le_of_ble_eq_true rfl, Nat.le_of_ble_eq_true rfl⟩ ⟨Nat.le_of_ble_eq_true rfl, Nat.le_of_ble_eq_true rfl⟩ rfl hl.1 rfl (Nat.le_of_ble_eq_true rfl) dX6_countShared_17 rfl (fun b_4 => ?_)
        refine lv_aload_n hx hb dX6_countShared_20 rfl (lv_at hl 2 rfl) ?_
        refine lv_iload_n hx hb dX6_countShared_21 rfl (lv_at hl 0 rfl) ?_
        have k_5 := hok.1
        have hok := hok.2
        refine r_Vs (own := RX6) (v := (some (.int (f_J0_charAt_5068e tj x2)))) (st1 := [.int (f_J0_charAt_5068e tj x2), .int (f_X6_signAt q sb (q.1 + x2))]) (As := [.int x2]) (rest := [.int (f_X6_signAt q sb (q.1 + x2))]) (c_J0_charAt_5068e l G tj x2 k_5 hyp_tj) ⟨hx, hb, hml, hown, hts⟩ g_X6_81 hdv_J0_charAt_5068e hK hST hS hP [] rfl (recv_str hST hS hyp_tj) ⟨Nat.le_of_ble_eq_true rfl, Nat.le_of_ble_eq_true rfl⟩ ⟨Nat.le_of_ble_eq_true rfl, Nat.le_of_ble_eq_true rfl⟩ rfl hl.1 rfl (Nat.le_of_ble_eq_true rfl) dX6_countShared_22 rfl (fun b_6 => ?_)
        refine lv_icmp_ne (tgt := 34) hx hb dX6_countShared_25 (by decide) (fun c_7 => ?_) (fun c_7 => ?_)
        · have hF := hF.trans (if_neg c_7)
          have hok := Eq.mp (if_neg c_7) hok
          refine lv_iload_n hx hb dX6_countShared_34 rfl (lv_at hl 0 rfl) ?_
          exact r_ret hx hb hr hlk rfl (by rw [hF]) trivial dX6_countShared_35
        · have hF := hF.trans (if_pos c_7)
          have hok := Eq.mp (if_pos c_7) hok
          refine lv_iinc (v := (x2 + 1)) (lv' := [(2, .int (x2 + 1)), (0, .ref qh0), (1, .ref (G.2.2.1 (10 + tj)))]) hx hb dX6_countShared_28 hl (k := 0) rfl rfl (by decide) rfl (fun ls hl => ?_)
          refine lv_goto (tgt := 2) hx hb dX6_countShared_31 (by decide) ?_
          exact ih (x2 + 1) ls (lv_sub hl [0, 1, 2] rfl) (trivial) hF hok
  exact L2 8 (0 : Int32) ls (lv_sub hl [0, 1, 2] rfl) (trivial) hF hok
theorem dX6_readVerb_0 : decode cX6_readVerb 0 = .ok (.iconst 0, 1) := by decide +kernel
theorem dX6_readVerb_1 : decode cX6_readVerb 1 = .ok (.istore_n 1, 1) := by decide +kernel
theorem dX6_readVerb_2 : decode cX6_readVerb 2 = .ok (.aload_n 0, 1) := by decide +kernel
theorem dX6_readVerb_3 : decode cX6_readVerb 3 = .ok (.iconst 0, 1) := by decide +kernel
theorem dX6_readVerb_4 : decode cX6_readVerb 4 = .ok (.putfield 15, 3) := by decide +kernel
theorem u_1077 : Cond.fieldLink RX6 15 "MoonlitDoors$Program" "verb" "I" ∈ UW := uw 1077 (by decide +kernel) rfl
theorem dX6_readVerb_7 : decode cX6_readVerb 7 = .ok (.aload_n 0, 1) := by decide +kernel
theorem dX6_readVerb_8 : decode cX6_readVerb 8 = .ok (.getfield 15, 3) := by decide +kernel
theorem dX6_readVerb_11 : decode cX6_readVerb 11 = .ok (.bipush 7, 2) := by decide +kernel
theorem dX6_readVerb_13 : decode cX6_readVerb 13 = .ok (.if_icmp .gt 47, 3) := by decide +kernel
theorem dX6_readVerb_60 : decode cX6_readVerb 60 = .ok (.aload_n 0, 1) := by decide +kernel
theorem dX6_readVerb_61 : decode cX6_readVerb 61 = .ok (.dup, 1) := by decide +kernel
theorem dX6_readVerb_62 : decode cX6_readVerb 62 = .ok (.getfield 9, 3) := by decide +kernel
theorem dX6_readVerb_65 : decode cX6_readVerb 65 = .ok (.iload_n 1, 1) := by decide +kernel
theorem dX6_readVerb_66 : decode cX6_readVerb 66 = .ok (.iadd, 1) := by decide +kernel
theorem dX6_readVerb_67 : decode cX6_readVerb 67 = .ok (.putfield 9, 3) := by decide +kernel
theorem dX6_readVerb_70 : decode cX6_readVerb 70 = .ok (.aload_n 0, 1) := by decide +kernel
theorem dX6_readVerb_71 : decode cX6_readVerb 71 = .ok (.getfield 15, 3) := by decide +kernel
theorem dX6_readVerb_74 : decode cX6_readVerb 74 = .ok (.bipush 7, 2) := by decide +kernel
theorem dX6_readVerb_76 : decode cX6_readVerb 76 = .ok (.if_icmp .gt 7, 3) := by decide +kernel
theorem dX6_readVerb_83 : decode cX6_readVerb 83 = .ok (.iconst 0, 1) := by decide +kernel
theorem dX6_readVerb_84 : decode cX6_readVerb 84 = .ok (.ireturn, 1) := by decide +kernel
theorem dX6_readVerb_16 : decode cX6_readVerb 16 = .ok (.aload_n 0, 1) := by decide +kernel
theorem dX6_readVerb_17 : decode cX6_readVerb 17 = .ok (.getfield 15, 3) := by decide +kernel
theorem dX6_readVerb_20 : decode cX6_readVerb 20 = .ok (.invokestatic 64, 3) := by decide +kernel
theorem u_1322 : Cond.methodLink RX6 64 yX6_wordOf ∈ UW := uw 1322 (by decide +kernel) rfl
theorem u_1323 : Cond.static yX6_wordOf ∈ UW := uw 1323 (by decide +kernel) rfl
theorem u_1324 : Cond.code yX6_wordOf cX6_wordOf 1 (some (.object "java/lang/String")) ∈ UW := uw 1324 (by decide +kernel) rfl
theorem g_X6_64 : GoodIn UW (va_wsS RX6 64 yX6_wordOf (wsU yX6_wordOf cX6_wordOf 1 (some (.object "java/lang/String")))) := gS u_1322 u_1323 u_28 u_1324
theorem hds_X6_wordOf : yX6_wordOf.cls ≠ "java/lang/invoke/MethodHandle" ∧ yX6_wordOf.cls ≠ "java/lang/invoke/VarHandle" ∧ (parseMethodDescriptor yX6_wordOf.desc).map (fun d => d.parameters.length) = some 1 := by decide +kernel
theorem dX6_readVerb_23 : decode cX6_readVerb 23 = .ok (.astore_n 2, 1) := by decide +kernel
theorem dX6_readVerb_24 : decode cX6_readVerb 24 = .ok (.aload_n 0, 1) := by decide +kernel
theorem dX6_readVerb_25 : decode cX6_readVerb 25 = .ok (.aload_n 2, 1) := by decide +kernel
theorem dX6_readVerb_26 : decode cX6_readVerb 26 = .ok (.invokevirtual 68, 3) := by decide +kernel
theorem u_1333 : Cond.methodLink RX6 68 yX6_countShared ∈ UW := uw 1333 (by decide +kernel) rfl
theorem u_1335 : Cond.instanceMethod yX6_countShared ∈ UW := uw 1335 (by decide +kernel) rfl
theorem u_10 : Cond.selects RX6 yX6_countShared yX6_countShared ∈ UW := uw 10 (by decide +kernel) rfl
theorem u_1336 : Cond.code yX6_countShared cX6_countShared 3 (some .int) ∈ UW := uw 1336 (by decide +kernel) rfl
theorem g_X6_68 : GoodIn UW (wsV RX6 68 RX6 yX6_countShared (wsU yX6_countShared cX6_countShared 3 (some .int))) := gV u_1333 u_1335 u_10 u_28 u_1336
theorem hdv_X6_countShared : yX6_countShared.cls = RX6 ∧ yX6_countShared.cls ≠ "java/lang/invoke/MethodHandle" ∧ yX6_countShared.cls ≠ "java/lang/invoke/VarHandle" ∧ (parseMethodDescriptor yX6_countShared.desc).map (fun d => d.parameters.length) = some 1 := by decide +kernel
theorem dX6_readVerb_29 : decode cX6_readVerb 29 = .ok (.istore_n 3, 1) := by decide +kernel
theorem dX6_readVerb_30 : decode cX6_readVerb 30 = .ok (.iload_n 1, 1) := by decide +kernel
theorem dX6_readVerb_31 : decode cX6_readVerb 31 = .ok (.iload_n 3, 1) := by decide +kernel
theorem dX6_readVerb_32 : decode cX6_readVerb 32 = .ok (.invokestatic 72, 3) := by decide +kernel
theorem u_1353 : Cond.methodLink RX6 72 yJ9_max_7cf53 ∈ UW := uw 1353 (by decide +kernel) rfl
theorem g_X6_72 : GoodIn UW (va_wsS RX6 72 yJ9_max_7cf53 (wsU yJ9_max_7cf53 cJ9_max_7cf53 2 (some .int))) := gS u_1353 u_222 u_44 u_223
theorem dX6_readVerb_35 : decode cX6_readVerb 35 = .ok (.istore_n 1, 1) := by decide +kernel
theorem dX6_readVerb_36 : decode cX6_readVerb 36 = .ok (.iload_n 3, 1) := by decide +kernel
theorem dX6_readVerb_37 : decode cX6_readVerb 37 = .ok (.aload_n 2, 1) := by decide +kernel
theorem dX6_readVerb_38 : decode cX6_readVerb 38 = .ok (.invokevirtual 78, 3) := by decide +kernel
theorem dX6_readVerb_41 : decode cX6_readVerb 41 = .ok (.if_icmp .ne 6, 3) := by decide +kernel
theorem dX6_readVerb_47 : decode cX6_readVerb 47 = .ok (.aload_n 0, 1) := by decide +kernel
theorem dX6_readVerb_48 : decode cX6_readVerb 48 = .ok (.dup, 1) := by decide +kernel
theorem dX6_readVerb_49 : decode cX6_readVerb 49 = .ok (.getfield 15, 3) := by decide +kernel
theorem dX6_readVerb_52 : decode cX6_readVerb 52 = .ok (.iconst 1, 1) := by decide +kernel
theorem dX6_readVerb_53 : decode cX6_readVerb 53 = .ok (.iadd, 1) := by decide +kernel
theorem dX6_readVerb_54 : decode cX6_readVerb 54 = .ok (.putfield 15, 3) := by decide +kernel
theorem dX6_readVerb_57 : decode cX6_readVerb 57 = .ok (.goto (-50), 3) := by decide +kernel
theorem dX6_readVerb_44 : decode cX6_readVerb 44 = .ok (.goto 16, 3) := by decide +kernel
theorem dX6_readVerb_79 : decode cX6_readVerb 79 = .ok (.iconst 1, 1) := by decide +kernel
theorem dX6_readVerb_80 : decode cX6_readVerb 80 = .ok (.goto 4, 3) := by decide +kernel
def lp_X6_readVerb_7 (q : PrV) (sb : SbV) : Nat → Int32 → PrV → Int32 × PrV
  | 0, _, _ => (0, q)
  | n + 1, x1, qL => (if (7 : Int32) < qL.2.1 then ((0 : Int32), ((qL.1 + x1), qL.2.1, qL.2.2.1, qL.2.2.2)) else (let y_6 : Int32 := (f_X6_countShared qL sb (f_X6_wordOf qL.2.1)); (if y_6 = (f_J0_length_8abf5 (f_X6_wordOf qL.2.1)) then ((1 : Int32), ((qL.1 + (f_J9_max_7cf53 x1 y_6)), qL.2.1, qL.2.2.1, qL.2.2.2)) else (lp_X6_readVerb_7 q sb n (f_J9_max_7cf53 x1 y_6) (qL.1, (qL.2.1 + (1 : Int32)), qL.2.2.1, qL.2.2.2)))))
def okl_lp_X6_readVerb_7 (q : PrV) (sb : SbV) : Nat → Int32 → PrV → Prop
  | 0, _, _ => False
  | n + 1, x1, qL => (if (7 : Int32) < qL.2.1 then True else (ok_X6_countShared qL sb (f_X6_wordOf qL.2.1) ∧ (let y_6 : Int32 := (f_X6_countShared qL sb (f_X6_wordOf qL.2.1)); (if y_6 = (f_J0_length_8abf5 (f_X6_wordOf qL.2.1)) then True else (okl_lp_X6_readVerb_7 q sb n (f_J9_max_7cf53 x1 y_6) (qL.1, (qL.2.1 + (1 : Int32)), qL.2.2.1, qL.2.2.2))))))
def f_X6_readVerb (q : PrV) (sb : SbV) : Int32 × PrV := (lp_X6_readVerb_7 q sb 9 (0 : Int32) (q.1, (0 : Int32), q.2.2.1, q.2.2.2))
def ok_X6_readVerb (q : PrV) (sb : SbV) : Prop := (okl_lp_X6_readVerb_7 q sb 9 (0 : Int32) (q.1, (0 : Int32), q.2.2.1, q.2.2.2))
set_option maxHeartbeats 4000000 in
set_option maxRecDepth 100000 in
theorem c_X6_readVerb (l : Launch) (G : GG) (qh0 : Nat) (sbh0 : Nat) (sbh1 : Nat) (sz : Nat) (q : PrV) (sb : SbV) (hok : ok_X6_readVerb q sb) : wMet l yX6_readVerb cX6_readVerb 4 (some .boolean) 7 0 0 G (fl [[(qh0, .inr (9, [.int q.1, .int q.2.1, .int q.2.2.1, .int q.2.2.2, .ref sbh0]))], [(sbh0, .inr (1, [.ref sbh1, .int (0 : Int32), .int sb.2.2.1, .int sb.2.2.2]))], [(sbh1, .inl (G.2.1 2, sb.1, .inl sb.2.1))]]) [.ref qh0] sz (fun u : Int32 × PrV => some (.int u.1)) (fun u : Int32 × PrV => u = f_X6_readVerb q sb ∧ narrow .boolean (.int ((f_X6_readVerb q sb).1)) = .int ((f_X6_readVerb q sb).1)) (fun u : Int32 × PrV => fl [[(qh0, .inr (9, [.int u.2.1, .int u.2.2.1, .int u.2.2.2.1, .int u.2.2.2.2, .ref sbh0]))], [(sbh0, .inr (1, [.ref sbh1, .int (0 : Int32), .int sb.2.2.1, .int sb.2.2.2]))], [(sbh1, .inl (G.2.1 2, sb.1, .inl sb.2.1))]]) := by
  refine w_start (by decide +kernel) (Nat.le_of_ble_eq_true rfl) ?_
  intro p e s m below meth c A hx hb hr hml hts hown hlk hin hP hD hA hK hST ls hl
  have hS : va_S A s.heap s.heap [] := va_S.rf
  have hown : s.vm.findClass RX6 = some m.cls := hown
  have hl : lv_has ls 4 [(0, .ref qh0)] := hl
  have hF : f_X6_readVerb q sb = (lp_X6_readVerb_7 q sb 9 (0 : Int32) (q.1, (0 : Int32), q.2.2.1, q.2.2.2)) := rfl
  have hok : (okl_lp_X6_readVerb_7 q sb 9 (0 : Int32) (q.1, (0 : Int32), q.2.2.1, q.2.2.2)) := hok
  refine lv_iconst (v := (0 : Int32)) hx hb dX6_readVerb_0 (by decide) ?_
  refine lv_istore_n (lv' := [(1, .int (0 : Int32)), (0, .ref qh0)]) hx hb dX6_readVerb_1 rfl hl (by decide) rfl (fun ls hl => ?_)
  refine lv_aload_n hx hb dX6_readVerb_2 rfl (lv_at hl 1 rfl) ?_
  refine lv_iconst (v := (0 : Int32)) hx hb dX6_readVerb_3 (by decide) ?_
  refine va_put (D := G.1) (ci := 9) (v := .int (0 : Int32)) (ty := .int) (C := RX6) (T := TX6) (N := 5) hx hb hts uws_X6 tyX6 tyX6_ok nmX6 hown hK hP hD hS 0 rfl rfl 1 (by decide) (hts _ u_1077) (fun _ h9 => h9) rfl (by decide +kernel) rfl rfl (Nat.le_of_ble_eq_true rfl) dX6_readVerb_4 (fun H locs hP hD hS => ?_)
  have hP : va_P G.1 vwCl (fl [[(qh0, .inr (9, [.int q.1, .int (0 : Int32), .int q.2.2.1, .int q.2.2.2, .ref sbh0]))], [(sbh0, .inr (1, [.ref sbh1, .int (0 : Int32), .int sb.2.2.1, .int sb.2.2.2]))], [(sbh1, .inl (G.2.1 2, sb.1, .inl sb.2.1))]]) H := hP
  have hD : va_D A (fl [[(qh0, .inr (9, [.int q.1, .int (0 : Int32), .int q.2.2.1, .int q.2.2.2, .ref sbh0]))], [(sbh0, .inr (1, [.ref sbh1, .int (0 : Int32), .int sb.2.2.1, .int sb.2.2.2]))], [(sbh1, .inl (G.2.1 2, sb.1, .inl sb.2.1))]]) := hD
  have L7 : ∀ (n : Nat) (x1 : Int32) (qL : PrV) (H : Heap) (locs : List Loc) (ls : Array Slot), lv_has ls 4 [(1, .int x1), (0, .ref qh0)] → va_P G.1 vwCl (fl [[(qh0, .inr (9, [.int qL.1, .int qL.2.1, .int qL.2.2.1, .int qL.2.2.2, .ref sbh0]))], [(sbh0, .inr (1, [.ref sbh1, .int (0 : Int32), .int sb.2.2.1, .int sb.2.2.2]))], [(sbh1, .inl (G.2.1 2, sb.1, .inl sb.2.1))]]) H → va_D A (fl [[(qh0, .inr (9, [.int qL.1, .int qL.2.1, .int qL.2.2.1, .int qL.2.2.2, .ref sbh0]))], [(sbh0, .inr (1, [.ref sbh1, .int (0 : Int32), .int sb.2.2.1, .int sb.2.2.2]))], [(sbh1, .inl (G.2.1 2, sb.1, .inl sb.2.1))]]) → va_S A s.heap H locs → (True) → f_X6_readVerb q sb = lp_X6_readVerb_7 q sb n x1 qL → okl_lp_X6_readVerb_7 q sb n x1 qL → W p l e (rmd 7 0 0) s m ([.ref qh0] : List Value).toArray below meth c H locs 0 0 (MQ below (wQ (fun u : Int32 × PrV => some (.int u.1)) (fun u : Int32 × PrV => u = f_X6_readVerb q sb ∧ narrow .boolean (.int ((f_X6_readVerb q sb).1)) = .int ((f_X6_readVerb q sb).1)) (fun u : Int32 × PrV => fl [[(qh0, .inr (9, [.int u.2.1, .int u.2.2.1, .int u.2.2.2.1, .int u.2.2.2.2, .ref sbh0]))], [(sbh0, .inr (1, [.ref sbh1, .int (0 : Int32), .int sb.2.2.1, .int sb.2.2.2]))], [(sbh1, .inl (G.2.1 2, sb.1, .inl sb.2.1))]]) G.1 A) ([.ref qh0] : List Value).toArray s 0 0 A) (F0 m 7 ls []) := by
    intro n
    induction n with
    | zero => intro x1 qL H locs ls hl _ _ _ hu hF hok; exact hok.elim
    | succ n ih =>
      intro x1 qL H locs ls hl hP hD hS hu hF hok
      have hF : f_X6_readVerb q sb = (if (7 : Int32) < qL.2.1 then ((0 : Int32), ((qL.1 + x1), qL.2.1, qL.2.2.1, qL.2.2.2)) else (let y_6 : Int32 := (f_X6_countShared qL sb (f_X6_wordOf qL.2.1)); (if y_6 = (f_J0_length_8abf5 (f_X6_wordOf qL.2.1)) then ((1 : Int32), ((qL.1 + (f_J9_max_7cf53 x1 y_6)), qL.2.1, qL.2.2.1, qL.2.2.2)) else (lp_X6_readVerb_7 q sb n (f_J9_max_7cf53 x1 y_6) (qL.1, (qL.2.1 + (1 : Int32)), qL.2.2.1, qL.2.2.2))))) := hF
      have hok : (if (7 : Int32) < qL.2.1 then True else (ok_X6_countShared qL sb (f_X6_wordOf qL.2.1) ∧ (let y_6 : Int32 := (f_X6_countShared qL sb (f_X6_wordOf qL.2.1)); (if y_6 = (f_J0_length_8abf5 (f_X6_wordOf qL.2.1)) then True else (okl_lp_X6_readVerb_7 q sb n (f_J9_max_7cf53 x1 y_6) (qL.1, (qL.2.1 + (1 : Int32)), qL.2.2.1, qL.2.2.2)))))) := hok
      refine lv_aload_n hx hb dX6_readVerb_7 rfl (lv_at hl 1 rfl) ?_
      refine va_get (D := G.1) (ci := 9) (v := .int qL.2.1) (C := RX6) (T := TX6) (N := 5) hx hb hts uws_X6 hown hK hP 0 rfl rfl 1 (by decide) (hts _ u_1077) (fun _ h9 => h9) rfl dX6_readVerb_8 ?_
      refine lv_bipush (v := (7 : Int32)) hx hb dX6_readVerb_11 (by decide) ?_
      refine lv_icmp_gt (tgt := 60) hx hb dX6_readVerb_13 (by decide) (fun c_1 => ?_) (fun c_1 => ?_)
      · have hF := hF.trans (if_pos c_1)
        have hok := Eq.mp (if_pos c_1) hok
        refine lv_aload_n hx hb dX6_readVerb_60 rfl (lv_at hl 1 rfl) ?_
        refine lv_dup hx hb dX6_readVerb_61 rfl ?_
        refine va_get (D := G.1) (ci := 9) (v := .int qL.1) (C := RX6) (T := TX6) (N := 5) hx hb hts uws_X6 hown hK hP 0 rfl rfl 0 (by decide) (hts _ u_1075) (fun _ h9 => h9) rfl dX6_readVerb_62 ?_
        refine lv_iload_n hx hb dX6_readVerb_65 rfl (lv_at hl 0 rfl) ?_
        refine lv_iadd hx hb dX6_readVerb_66 ?_
        refine va_put (D := G.1) (ci := 9) (v := .int (qL.1 + x1)) (ty := .int) (C := RX6) (T := TX6) (N := 5) hx hb hts uws_X6 tyX6 tyX6_ok nmX6 hown hK hP hD hS 0 rfl rfl 0 (by decide) (hts _ u_1075) (fun _ h9 => h9) rfl (by decide +kernel) rfl rfl (Nat.le_of_ble_eq_true rfl) dX6_readVerb_67 (fun H locs hP hD hS => ?_)
        have hP : va_P G.1 vwCl (fl [[(qh0, .inr (9, [.int (qL.1 + x1), .int qL.2.1, .int qL.2.2.1, .int qL.2.2.2, .ref sbh0]))], [(sbh0, .inr (1, [.ref sbh1, .int (0 : Int32), .int sb.2.2.1, .int sb.2.2.2]))], [(sbh1, .inl (G.2.1 2, sb.1, .inl sb.2.1))]]) H := hP
        have hD : va_D A (fl [[(qh0, .inr (9, [.int (qL.1 + x1), .int qL.2.1, .int qL.2.2.1, .int qL.2.2.2, .ref sbh0]))], [(sbh0, .inr (1, [.ref sbh1, .int (0 : Int32), .int sb.2.2.1, .int sb.2.2.2]))], [(sbh1, .inl (G.2.1 2, sb.1, .inl sb.2.1))]]) := hD
        refine lv_aload_n hx hb dX6_readVerb_70 rfl (lv_at hl 1 rfl) ?_
        refine va_get (D := G.1) (ci := 9) (v := .int qL.2.1) (C := RX6) (T := TX6) (N := 5) hx hb hts uws_X6 hown hK hP 0 rfl rfl 1 (by decide) (hts _ u_1077) (fun _ h9 => h9) rfl dX6_readVerb_71 ?_
        refine lv_bipush (v := (7 : Int32)) hx hb dX6_readVerb_74 (by decide) ?_
        refine lv_icmp_gt (tgt := 83) hx hb dX6_readVerb_76 (by decide) (fun c_2 => ?_) (fun c_2 => ?_)
        · refine lv_iconst (v := (0 : Int32)) hx hb dX6_readVerb_83 (by decide) ?_
          exact w_ret (u := ((0 : Int32), ((qL.1 + x1), qL.2.1, qL.2.2.1, qL.2.2.2))) hx hb hr hlk rfl hS rfl ⟨hF.symm, (by rw [hF]; exact (rfl : narrow .boolean (.int (0 : Int32)) = .int (0 : Int32)))⟩ hP hD (Nat.le_of_ble_eq_true rfl) (Nat.le_of_ble_eq_true rfl) dX6_readVerb_84
        · exact absurd c_1 c_2
      · have hF := hF.trans (if_neg c_1)
        have hok := Eq.mp (if_neg c_1) hok
        refine lv_aload_n hx hb dX6_readVerb_16 rfl (lv_at hl 1 rfl) ?_
        refine va_get (D := G.1) (ci := 9) (v := .int qL.2.1) (C := RX6) (T := TX6) (N := 5) hx hb hts uws_X6 hown hK hP 0 rfl rfl 1 (by decide) (hts _ u_1077) (fun _ h9 => h9) rfl dX6_readVerb_17 ?_
        refine r_S (own := RX6) (v := (some (.ref (G.2.2.1 (10 + (f_X6_wordOf qL.2.1)))))) (st1 := [.ref (G.2.2.1 (10 + (f_X6_wordOf qL.2.1)))]) (As := [.int qL.2.1]) (rest := []) (c_X6_wordOf l G qL.2.1) ⟨hx, hb, hml, hown, hts⟩ g_X6_64 hds_X6_wordOf hK hST hS hP [] rfl ⟨Nat.le_of_ble_eq_true rfl, Nat.le_of_ble_eq_true rfl⟩ ⟨Nat.le_of_ble_eq_true rfl, Nat.le_of_ble_eq_true rfl⟩ rfl hl.1 rfl (Nat.le_of_ble_eq_true rfl) dX6_readVerb_20 rfl (fun b_3 => ?_)
        refine lv_astore_n (lv' := [(2, .ref (G.2.2.1 (10 + (f_X6_wordOf qL.2.1)))), (1, .int x1), (0, .ref qh0)]) hx hb dX6_readVerb_23 rfl hl (by decide) rfl (fun ls hl => ?_)
        refine lv_aload_n hx hb dX6_readVerb_24 rfl (lv_at hl 2 rfl) ?_
        refine lv_aload_n hx hb dX6_readVerb_25 rfl (lv_at hl 0 rfl) ?_
        have k_4 := hok.1
        have hok := hok.2
        refine r_V (own := RX6) (v := (some (.int (f_X6_countShared qL sb (f_X6_wordOf qL.2.1))))) (st1 := [.int (f_X6_countShared qL sb (f_X6_wordOf qL.2.1))]) (As := [.ref (G.2.2.1 (10 + (f_X6_wordOf qL.2.1)))]) (rest := []) (c_X6_countShared l G qh0 sbh0 sbh1 qL sb (f_X6_wordOf qL.2.1) k_4 b_3) ⟨hx, hb, hml, hown, hts⟩ g_X6_68 hdv_X6_countShared hK hST hS hP [0, 1, 2] rfl (k0 := 0) rfl rfl rfl ⟨Nat.le_of_ble_eq_true rfl, Nat.le_of_ble_eq_true rfl⟩ ⟨Nat.le_of_ble_eq_true rfl, Nat.le_of_ble_eq_true rfl⟩ rfl hl.1 rfl (Nat.le_of_ble_eq_true rfl) dX6_readVerb_26 rfl (fun b_5 => ?_)
        refine lv_topi (fun y_6 ey_6 => ?_)
        have hF : f_X6_readVerb q sb = (if y_6 = (f_J0_length_8abf5 (f_X6_wordOf qL.2.1)) then ((1 : Int32), ((qL.1 + (f_J9_max_7cf53 x1 y_6)), qL.2.1, qL.2.2.1, qL.2.2.2)) else (lp_X6_readVerb_7 q sb n (f_J9_max_7cf53 x1 y_6) (qL.1, (qL.2.1 + (1 : Int32)), qL.2.2.1, qL.2.2.2))) := by subst ey_6; exact hF
        have hok : (if y_6 = (f_J0_length_8abf5 (f_X6_wordOf qL.2.1)) then True else (okl_lp_X6_readVerb_7 q sb n (f_J9_max_7cf53 x1 y_6) (qL.1, (qL.2.1 + (1 : Int32)), qL.2.2.1, qL.2.2.2))) := by subst ey_6; exact hok
        refine lv_istore_n (lv' := [(3, .int y_6), (2, .ref (G.2.2.1 (10 + (f_X6_wordOf qL.2.1)))), (1, .int x1), (0, .ref qh0)]) hx hb dX6_readVerb_29 rfl hl (by decide) rfl (fun ls hl => ?_)
        refine lv_iload_n hx hb dX6_readVerb_30 rfl (lv_at hl 2 rfl) ?_
        refine lv_iload_n hx hb dX6_readVerb_31 rfl (lv_at hl 0 rfl) ?_
        refine r_S (own := RX6) (v := (some (.int (f_J9_max_7cf53 x1 y_6)))) (st1 := [.int (f_J9_max_7cf53 x1 y_6)]) (As := [.int x1, .int y_6]) (rest := []) (c_J9_max_7cf53 l G x1 y_6) ⟨hx, hb, hml, hown, hts⟩ g_X6_72 hds_J9_max_7cf53 hK hST hS hP [] rfl ⟨Nat.le_of_ble_eq_true rfl, Nat.le_of_ble_eq_true rfl⟩ ⟨Nat.le_of_ble_eq_true rfl, Nat.le_of_ble_eq_true rfl⟩ rfl hl.1 rfl (Nat.le_of_ble_eq_true rfl) dX6_readVerb_32 rfl (fun b_7 => ?_)
        refine lv_istore_n (lv' := [(1, .int (f_J9_max_7cf53 x1 y_6)), (3, .int y_6), (2, .ref (G.2.2.1 (10 + (f_X6_wordOf qL.2.1)))), (0, .ref qh0)]) hx hb dX6_readVerb_35 rfl hl (by decide) rfl (fun ls hl => ?_)
        refine lv_iload_n hx hb dX6_readVerb_36 rfl (lv_at hl 1 rfl) ?_
        refine lv_aload_n hx hb dX6_readVerb_37 rfl (lv_at hl 2 rfl) ?_
        refine r_Vs (own := RX6) (v := (some (.int (f_J0_length_8abf5 (f_X6_wordOf qL.2.1))))) (st1 := [.int (f_J0_length_8abf5 (f_X6_wordOf qL.2.1)), .int y_6]) (As := []) (rest := [.int y_6]) (c_J0_length_8abf5 l G (f_X6_wordOf qL.2.1) b_3) ⟨hx, hb, hml, hown, hts⟩ g_X6_78 hdv_J0_length_8abf5 hK hST hS hP [] rfl (recv_str hST hS b_3) ⟨Nat.le_of_ble_eq_true rfl, Nat.le_of_ble_eq_true rfl⟩ ⟨Nat.le_of_ble_eq_true rfl, Nat.le_of_ble_eq_true rfl⟩ rfl hl.1 rfl (Nat.le_of_ble_eq_true rfl) dX6_readVerb_38 rfl (fun b_8 => ?_)
        refine lv_icmp_ne (tgt := 47) hx hb dX6_readVerb_41 (by decide) (fun c_9 => ?_) (fun c_9 => ?_)
        · have hF := hF.trans (if_neg c_9)
          have hok := Eq.mp (if_neg c_9) hok
          refine lv_aload_n hx hb dX6_readVerb_47 rfl (lv_at hl 3 rfl) ?_
          refine lv_dup hx hb dX6_readVerb_48 rfl ?_
          refine va_get (D := G.1) (ci := 9) (v := .int qL.2.1) (C := RX6) (T := TX6) (N := 5) hx hb hts uws_X6 hown hK hP 0 rfl rfl 1 (by decide) (hts _ u_1077) (fun _ h9 => h9) rfl dX6_readVerb_49 ?_
          refine lv_iconst (v := (1 : Int32)) hx hb dX6_readVerb_52 (by decide) ?_
          refine lv_iadd hx hb dX6_readVerb_53 ?_
          refine va_put (D := G.1) (ci := 9) (v := .int (qL.2.1 + (1 : Int32))) (ty := .int) (C := RX6) (T := TX6) (N := 5) hx hb hts uws_X6 tyX6 tyX6_ok nmX6 hown hK hP hD hS 0 rfl rfl 1 (by decide) (hts _ u_1077) (fun _ h9 => h9) rfl (by decide +kernel) rfl rfl (Nat.le_of_ble_eq_true rfl) dX6_readVerb_54 (fun H locs hP hD hS => ?_)
          have hP : va_P G.1 vwCl (fl [[(qh0, .inr (9, [.int qL.1, .int (qL.2.1 + (1 : Int32)), .int qL.2.2.1, .int qL.2.2.2, .ref sbh0]))], [(sbh0, .inr (1, [.ref sbh1, .int (0 : Int32), .int sb.2.2.1, .int sb.2.2.2]))], [(sbh1, .inl (G.2.1 2, sb.1, .inl sb.2.1))]]) H := hP
          have hD : va_D A (fl [[(qh0, .inr (9, [.int qL.1, .int (qL.2.1 + (1 : Int32)), .int qL.2.2.1, .int qL.2.2.2, .ref sbh0]))], [(sbh0, .inr (1, [.ref sbh1, .int (0 : Int32), .int sb.2.2.1, .int sb.2.2.2]))], [(sbh1, .inl (G.2.1 2, sb.1, .inl sb.2.1))]]) := hD
          refine lv_goto (tgt := 7) hx hb dX6_readVerb_57 (by decide) ?_
          exact ih (f_J9_max_7cf53 x1 y_6) (qL.1, (qL.2.1 + (1 : Int32)), qL.2.2.1, qL.2.2.2) _ _ ls (lv_sub hl [0, 3] rfl) hP hD hS (trivial) hF hok
        · have hF := hF.trans (if_pos c_9)
          have hok := Eq.mp (if_pos c_9) hok
          refine lv_goto (tgt := 60) hx hb dX6_readVerb_44 (by decide) ?_
          refine lv_aload_n hx hb dX6_readVerb_60 rfl (lv_at hl 3 rfl) ?_
          refine lv_dup hx hb dX6_readVerb_61 rfl ?_
          refine va_get (D := G.1) (ci := 9) (v := .int qL.1) (C := RX6) (T := TX6) (N := 5) hx hb hts uws_X6 hown hK hP 0 rfl rfl 0 (by decide) (hts _ u_1075) (fun _ h9 => h9) rfl dX6_readVerb_62 ?_
          refine lv_iload_n hx hb dX6_readVerb_65 rfl (lv_at hl 0 rfl) ?_
          refine lv_iadd hx hb dX6_readVerb_66 ?_
          refine va_put (D := G.1) (ci := 9) (v := .int (qL.1 + (f_J9_max_7cf53 x1 y_6))) (ty := .int) (C := RX6) (T := TX6) (N := 5) hx hb hts uws_X6 tyX6 tyX6_ok nmX6 hown hK hP hD hS 0 rfl rfl 0 (by decide) (hts _ u_1075) (fun _ h9 => h9) rfl (by decide +kernel) rfl rfl (Nat.le_of_ble_eq_true rfl) dX6_readVerb_67 (fun H locs hP hD hS => ?_)
          have hP : va_P G.1 vwCl (fl [[(qh0, .inr (9, [.int (qL.1 + (f_J9_max_7cf53 x1 y_6)), .int qL.2.1, .int qL.2.2.1, .int qL.2.2.2, .ref sbh0]))], [(sbh0, .inr (1, [.ref sbh1, .int (0 : Int32), .int sb.2.2.1, .int sb.2.2.2]))], [(sbh1, .inl (G.2.1 2, sb.1, .inl sb.2.1))]]) H := hP
          have hD : va_D A (fl [[(qh0, .inr (9, [.int (qL.1 + (f_J9_max_7cf53 x1 y_6)), .int qL.2.1, .int qL.2.2.1, .int qL.2.2.2, .ref sbh0]))], [(sbh0, .inr (1, [.ref sbh1, .int (0 : Int32), .int sb.2.2.1, .int sb.2.2.2]))], [(sbh1, .inl (G.2.1 2, sb.1, .inl sb.2.1))]]) := hD
          refine lv_aload_n hx hb dX6_readVerb_70 rfl (lv_at hl 3 rfl) ?_
          refine va_get (D := G.1) (ci := 9) (v := .int qL.2.1) (C := RX6) (T := TX6) (N := 5) hx hb hts uws_X6 hown hK hP 0 rfl rfl 1 (by decide) (hts _ u_1077) (fun _ h9 => h9) rfl dX6_readVerb_71 ?_
          refine lv_bipush (v := (7 : Int32)) hx hb dX6_readVerb_74 (by decide) ?_
          refine lv_icmp_gt (tgt := 83) hx hb dX6_readVerb_76 (by decide) (fun c_10 => ?_) (fun c_10 => ?_)
          · exact absurd c_10 c_1
          · refine lv_iconst (v := (1 : Int32)) hx hb dX6_readVerb_79 (by decide) ?_
            refine lv_goto (tgt := 84) hx hb dX6_readVerb_80 (by decide) ?_
            exact w_ret (u := ((1 : Int32), ((qL.1 + (f_J9_max_7cf53 x1 y_6)), qL.2.1, qL.2.2.1, qL.2.2.2))) hx hb hr hlk rfl hS rfl ⟨hF.symm, (by rw [hF]; exact (rfl : narrow .boolean (.int (1 : Int32)) = .int (1 : Int32)))⟩ hP hD (Nat.le_of_ble_eq_true rfl) (Nat.le_of_ble_eq_true rfl) dX6_readVerb_84
  exact L7 9 (0 : Int32) (q.1, (0 : Int32), q.2.2.1, q.2.2.2) _ _ ls (lv_sub hl [0, 1] rfl) hP hD hS (trivial) hF hok
theorem dX6_readArguments_0 : decode cX6_readArguments 0 = .ok (.aload_n 0, 1) := by decide +kernel
theorem dX6_readArguments_1 : decode cX6_readArguments 1 = .ok (.aload_n 0, 1) := by decide +kernel
theorem dX6_readArguments_2 : decode cX6_readArguments 2 = .ok (.getfield 15, 3) := by decide +kernel
theorem dX6_readArguments_5 : decode cX6_readArguments 5 = .ok (.iconst 5, 1) := by decide +kernel
theorem dX6_readArguments_6 : decode cX6_readArguments 6 = .ok (.if_icmp .gt 10, 3) := by decide +kernel
theorem dX6_readArguments_16 : decode cX6_readArguments 16 = .ok (.aload_n 0, 1) := by decide +kernel
theorem dX6_readArguments_17 : decode cX6_readArguments 17 = .ok (.invokevirtual 87, 3) := by decide +kernel
theorem u_1362 : Cond.methodLink RX6 87 yX6_readNumber ∈ UW := uw 1362 (by decide +kernel) rfl
theorem u_1364 : Cond.instanceMethod yX6_readNumber ∈ UW := uw 1364 (by decide +kernel) rfl
theorem u_14 : Cond.selects RX6 yX6_readNumber yX6_readNumber ∈ UW := uw 14 (by decide +kernel) rfl
theorem u_1365 : Cond.code yX6_readNumber cX6_readNumber 4 (some .int) ∈ UW := uw 1365 (by decide +kernel) rfl
theorem g_X6_87 : GoodIn UW (wsV RX6 87 RX6 yX6_readNumber (wsU yX6_readNumber cX6_readNumber 4 (some .int))) := gV u_1362 u_1364 u_14 u_28 u_1365
theorem hdv_X6_readNumber : yX6_readNumber.cls = RX6 ∧ yX6_readNumber.cls ≠ "java/lang/invoke/MethodHandle" ∧ yX6_readNumber.cls ≠ "java/lang/invoke/VarHandle" ∧ (parseMethodDescriptor yX6_readNumber.desc).map (fun d => d.parameters.length) = some 0 := by decide +kernel
theorem dX6_readArguments_20 : decode cX6_readArguments 20 = .ok (.putfield 18, 3) := by decide +kernel
theorem u_1079 : Cond.fieldLink RX6 18 "MoonlitDoors$Program" "first" "I" ∈ UW := uw 1079 (by decide +kernel) rfl
theorem dX6_readArguments_23 : decode cX6_readArguments 23 = .ok (.aload_n 0, 1) := by decide +kernel
theorem dX6_readArguments_24 : decode cX6_readArguments 24 = .ok (.iconst 0, 1) := by decide +kernel
theorem dX6_readArguments_25 : decode cX6_readArguments 25 = .ok (.putfield 21, 3) := by decide +kernel
theorem u_1081 : Cond.fieldLink RX6 21 "MoonlitDoors$Program" "second" "I" ∈ UW := uw 1081 (by decide +kernel) rfl
theorem dX6_readArguments_28 : decode cX6_readArguments 28 = .ok (.aload_n 0, 1) := by decide +kernel
theorem dX6_readArguments_29 : decode cX6_readArguments 29 = .ok (.getfield 18, 3) := by decide +kernel
theorem dX6_readArguments_32 : decode cX6_readArguments 32 = .ok (.iconst (-1), 1) := by decide +kernel
theorem dX6_readArguments_33 : decode cX6_readArguments 33 = .ok (.if_icmp .ne 5, 3) := by decide +kernel
theorem dX6_readArguments_38 : decode cX6_readArguments 38 = .ok (.aload_n 0, 1) := by decide +kernel
theorem dX6_readArguments_39 : decode cX6_readArguments 39 = .ok (.getfield 15, 3) := by decide +kernel
theorem dX6_readArguments_42 : decode cX6_readArguments 42 = .ok (.iconst 2, 1) := by decide +kernel
theorem dX6_readArguments_43 : decode cX6_readArguments 43 = .ok (.if_icmp .gt 14, 3) := by decide +kernel
theorem dX6_readArguments_57 : decode cX6_readArguments 57 = .ok (.aload_n 0, 1) := by decide +kernel
theorem dX6_readArguments_58 : decode cX6_readArguments 58 = .ok (.getfield 15, 3) := by decide +kernel
theorem dX6_readArguments_61 : decode cX6_readArguments 61 = .ok (.iconst 5, 1) := by decide +kernel
theorem dX6_readArguments_62 : decode cX6_readArguments 62 = .ok (.if_icmp .gt 24, 3) := by decide +kernel
theorem dX6_readArguments_86 : decode cX6_readArguments 86 = .ok (.aload_n 0, 1) := by decide +kernel
theorem dX6_readArguments_87 : decode cX6_readArguments 87 = .ok (.getfield 21, 3) := by decide +kernel
theorem dX6_readArguments_90 : decode cX6_readArguments 90 = .ok (.iconst (-1), 1) := by decide +kernel
theorem dX6_readArguments_91 : decode cX6_readArguments 91 = .ok (.if_icmp .eq 7, 3) := by decide +kernel
theorem dX6_readArguments_94 : decode cX6_readArguments 94 = .ok (.iconst 1, 1) := by decide +kernel
theorem dX6_readArguments_95 : decode cX6_readArguments 95 = .ok (.goto 4, 3) := by decide +kernel
theorem dX6_readArguments_99 : decode cX6_readArguments 99 = .ok (.ireturn, 1) := by decide +kernel
theorem dX6_readArguments_65 : decode cX6_readArguments 65 = .ok (.aload_n 0, 1) := by decide +kernel
theorem dX6_readArguments_66 : decode cX6_readArguments 66 = .ok (.aload_n 0, 1) := by decide +kernel
theorem dX6_readArguments_67 : decode cX6_readArguments 67 = .ok (.bipush 32, 2) := by decide +kernel
theorem dX6_readArguments_69 : decode cX6_readArguments 69 = .ok (.invokevirtual 50, 3) := by decide +kernel
theorem u_1366 : Cond.methodLink RX6 50 yX6_readSign ∈ UW := uw 1366 (by decide +kernel) rfl
theorem u_1367 : Cond.instanceMethod yX6_readSign ∈ UW := uw 1367 (by decide +kernel) rfl
theorem u_1368 : Cond.selects RX6 yX6_readSign yX6_readSign ∈ UW := uw 1368 (by decide +kernel) rfl
theorem u_1369 : Cond.code yX6_readSign cX6_readSign 2 (some .boolean) ∈ UW := uw 1369 (by decide +kernel) rfl
theorem g_X6_50 : GoodIn UW (wsV RX6 50 RX6 yX6_readSign (wsU yX6_readSign cX6_readSign 2 (some .boolean))) := gV u_1366 u_1367 u_1368 u_28 u_1369
theorem hdv_X6_readSign : yX6_readSign.cls = RX6 ∧ yX6_readSign.cls ≠ "java/lang/invoke/MethodHandle" ∧ yX6_readSign.cls ≠ "java/lang/invoke/VarHandle" ∧ (parseMethodDescriptor yX6_readSign.desc).map (fun d => d.parameters.length) = some 1 := by decide +kernel
theorem dX6_readArguments_72 : decode cX6_readArguments 72 = .ok (.ifCond .eq 10, 3) := by decide +kernel
theorem dX6_readArguments_82 : decode cX6_readArguments 82 = .ok (.iconst (-1), 1) := by decide +kernel
theorem dX6_readArguments_83 : decode cX6_readArguments 83 = .ok (.putfield 21, 3) := by decide +kernel
theorem dX6_readArguments_98 : decode cX6_readArguments 98 = .ok (.iconst 0, 1) := by decide +kernel
theorem dX6_readArguments_75 : decode cX6_readArguments 75 = .ok (.aload_n 0, 1) := by decide +kernel
theorem dX6_readArguments_76 : decode cX6_readArguments 76 = .ok (.invokevirtual 87, 3) := by decide +kernel
theorem dX6_readArguments_79 : decode cX6_readArguments 79 = .ok (.goto 4, 3) := by decide +kernel
theorem dX6_readArguments_46 : decode cX6_readArguments 46 = .ok (.aload_n 0, 1) := by decide +kernel
theorem dX6_readArguments_47 : decode cX6_readArguments 47 = .ok (.aload_n 0, 1) := by decide +kernel
theorem dX6_readArguments_48 : decode cX6_readArguments 48 = .ok (.invokevirtual 84, 3) := by decide +kernel
theorem dX6_readArguments_51 : decode cX6_readArguments 51 = .ok (.putfield 21, 3) := by decide +kernel
theorem dX6_readArguments_54 : decode cX6_readArguments 54 = .ok (.goto 32, 3) := by decide +kernel
theorem dX6_readArguments_36 : decode cX6_readArguments 36 = .ok (.iconst 0, 1) := by decide +kernel
theorem dX6_readArguments_37 : decode cX6_readArguments 37 = .ok (.ireturn, 1) := by decide +kernel
theorem dX6_readArguments_9 : decode cX6_readArguments 9 = .ok (.aload_n 0, 1) := by decide +kernel
theorem dX6_readArguments_10 : decode cX6_readArguments 10 = .ok (.invokevirtual 84, 3) := by decide +kernel
theorem dX6_readArguments_13 : decode cX6_readArguments 13 = .ok (.goto 7, 3) := by decide +kernel
def f_X6_readArguments (q : PrV) (sb : SbV) : Int32 × PrV := (if (5 : Int32) < q.2.1 then (let u_4 : Int32 × PrV := (f_X6_readNumber q sb); (if u_4.1 = (-1 : Int32) then ((0 : Int32), (u_4.2.1, u_4.2.2.1, u_4.1, (0 : Int32))) else (if (2 : Int32) < u_4.2.2.1 then (if (5 : Int32) < u_4.2.2.1 then ((1 : Int32), (u_4.2.1, u_4.2.2.1, u_4.1, (0 : Int32))) else (let u_11 : Int32 × PrV := (f_X6_readSign (u_4.2.1, u_4.2.2.1, u_4.1, (0 : Int32)) sb (32 : Int32)); (if u_11.1 = (0 : Int32) then ((0 : Int32), (u_11.2.1, u_11.2.2.1, u_11.2.2.2.1, (-1 : Int32))) else (let u_16 : Int32 × PrV := (f_X6_readNumber u_11.2 sb); (if u_16.1 = (-1 : Int32) then ((0 : Int32), (u_16.2.1, u_16.2.2.1, u_16.2.2.2.1, u_16.1)) else ((1 : Int32), (u_16.2.1, u_16.2.2.1, u_16.2.2.2.1, u_16.1))))))) else (let u_20 : Int32 × PrV := (f_X6_readDigit (u_4.2.1, u_4.2.2.1, u_4.1, (0 : Int32)) sb); (if u_20.1 = (-1 : Int32) then ((0 : Int32), (u_20.2.1, u_20.2.2.1, u_20.2.2.2.1, u_20.1)) else ((1 : Int32), (u_20.2.1, u_20.2.2.1, u_20.2.2.2.1, u_20.1))))))) else (let u_24 : Int32 × PrV := (f_X6_readDigit q sb); (if u_24.1 = (-1 : Int32) then ((0 : Int32), (u_24.2.1, u_24.2.2.1, u_24.1, (0 : Int32))) else (if (2 : Int32) < u_24.2.2.1 then (if (5 : Int32) < u_24.2.2.1 then ((1 : Int32), (u_24.2.1, u_24.2.2.1, u_24.1, (0 : Int32))) else (let u_31 : Int32 × PrV := (f_X6_readSign (u_24.2.1, u_24.2.2.1, u_24.1, (0 : Int32)) sb (32 : Int32)); (if u_31.1 = (0 : Int32) then ((0 : Int32), (u_31.2.1, u_31.2.2.1, u_31.2.2.2.1, (-1 : Int32))) else (let u_36 : Int32 × PrV := (f_X6_readNumber u_31.2 sb); (if u_36.1 = (-1 : Int32) then ((0 : Int32), (u_36.2.1, u_36.2.2.1, u_36.2.2.2.1, u_36.1)) else ((1 : Int32), (u_36.2.1, u_36.2.2.1, u_36.2.2.2.1, u_36.1))))))) else (let u_40 : Int32 × PrV := (f_X6_readDigit (u_24.2.1, u_24.2.2.1, u_24.1, (0 : Int32)) sb); (if u_40.1 = (-1 : Int32) then ((0 : Int32), (u_40.2.1, u_40.2.2.1, u_40.2.2.2.1, u_40.1)) else ((1 : Int32), (u_40.2.1, u_40.2.2.1, u_40.2.2.2.1, u_40.1))))))))
def ok_X6_readArguments (q : PrV) (sb : SbV) : Prop := (if (5 : Int32) < q.2.1 then (ok_X6_readNumber q sb ∧ (let u_4 : Int32 × PrV := (f_X6_readNumber q sb); (if u_4.1 = (-1 : Int32) then True else (if (2 : Int32) < u_4.2.2.1 then (if (5 : Int32) < u_4.2.2.1 then True else (ok_X6_readSign (u_4.2.1, u_4.2.2.1, u_4.1, (0 : Int32)) sb (32 : Int32) ∧ (let u_11 : Int32 × PrV := (f_X6_readSign (u_4.2.1, u_4.2.2.1, u_4.1, (0 : Int32)) sb (32 : Int32)); (if u_11.1 = (0 : Int32) then True else (ok_X6_readNumber u_11.2 sb ∧ True))))) else (ok_X6_readDigit (u_4.2.1, u_4.2.2.1, u_4.1, (0 : Int32)) sb ∧ True))))) else (ok_X6_readDigit q sb ∧ (let u_24 : Int32 × PrV := (f_X6_readDigit q sb); (if u_24.1 = (-1 : Int32) then True else (if (2 : Int32) < u_24.2.2.1 then (if (5 : Int32) < u_24.2.2.1 then True else (ok_X6_readSign (u_24.2.1, u_24.2.2.1, u_24.1, (0 : Int32)) sb (32 : Int32) ∧ (let u_31 : Int32 × PrV := (f_X6_readSign (u_24.2.1, u_24.2.2.1, u_24.1, (0 : Int32)) sb (32 : Int32)); (if u_31.1 = (0 : Int32) then True else (ok_X6_readNumber u_31.2 sb ∧ True))))) else (ok_X6_readDigit (u_24.2.1, u_24.2.2.1, u_24.1, (0 : Int32)) sb ∧ True))))))
set_option maxHeartbeats 4000000 in
set_option maxRecDepth 100000 in
theorem c_X6_readArguments (l : Launch) (G : GG) (qh0 : Nat) (sbh0 : Nat) (sbh1 : Nat) (sz : Nat) (q : PrV) (sb : SbV) (hok : ok_X6_readArguments q sb) : wMet l yX6_readArguments cX6_readArguments 1 (some .boolean) 8 0 0 G (fl [[(qh0, .inr (9, [.int q.1, .int q.2.1, .int q.2.2.1, .int q.2.2.2, .ref sbh0]))], [(sbh0, .inr (1, [.ref sbh1, .int (0 : Int32), .int sb.2.2.1, .int sb.2.2.2]))], [(sbh1, .inl (G.2.1 2, sb.1, .inl sb.2.1))]]) [.ref qh0] sz (fun u : Int32 × PrV => some (.int u.1)) (fun u : Int32 × PrV => u = f_X6_readArguments q sb ∧ narrow .boolean (.int ((f_X6_readArguments q sb).1)) = .int ((f_X6_readArguments q sb).1)) (fun u : Int32 × PrV => fl [[(qh0, .inr (9, [.int u.2.1, .int u.2.2.1, .int u.2.2.2.1, .int u.2.2.2.2, .ref sbh0]))], [(sbh0, .inr (1, [.ref sbh1, .int (0 : Int32), .int sb.2.2.1, .int sb.2.2.2]))], [(sbh1, .inl (G.2.1 2, sb.1, .inl sb.2.1))]]) := by
  refine w_start (by decide +kernel) (Nat.le_of_ble_eq_true rfl) ?_
  intro p e s m below meth c A hx hb hr hml hts hown hlk hin hP hD hA hK hST ls hl
  have hS : va_S A s.heap s.heap [] := va_S.rf
  have hown : s.vm.findClass RX6 = some m.cls := hown
  have hl : lv_has ls 1 [(0, .ref qh0)] := hl
  have hF : f_X6_readArguments q sb = (if (5 : Int32) < q.2.1 then (let u_4 : Int32 × PrV := (f_X6_readNumber q sb); (if u_4.1 = (-1 : Int32) then ((0 : Int32), (u_4.2.1, u_4.2.2.1, u_4.1, (0 : Int32))) else (if (2 : Int32) < u_4.2.2.1 then (if (5 : Int32) < u_4.2.2.1 then ((1 : Int32), (u_4.2.1, u_4.2.2.1, u_4.1, (0 : Int32))) else (let u_11 : Int32 × PrV := (f_X6_readSign (u_4.2.1, u_4.2.2.1, u_4.1, (0 : Int32)) sb (32 : Int32)); (if u_11.1 = (0 : Int32) then ((0 : Int32), (u_11.2.1, u_11.2.2.1, u_11.2.2.2.1, (-1 : Int32))) else (let u_16 : Int32 × PrV := (f_X6_readNumber u_11.2 sb); (if u_16.1 = (-1 : Int32) then ((0 : Int32), (u_16.2.1, u_16.2.2.1, u_16.2.2.2.1, u_16.1)) else ((1 : Int32), (u_16.2.1, u_16.2.2.1, u_16.2.2.2.1, u_16.1))))))) else (let u_20 : Int32 × PrV := (f_X6_readDigit (u_4.2.1, u_4.2.2.1, u_4.1, (0 : Int32)) sb); (if u_20.1 = (-1 : Int32) then ((0 : Int32), (u_20.2.1, u_20.2.2.1, u_20.2.2.2.1, u_20.1)) else ((1 : Int32), (u_20.2.1, u_20.2.2.1, u_20.2.2.2.1, u_20.1))))))) else (let u_24 : Int32 × PrV := (f_X6_readDigit q sb); (if u_24.1 = (-1 : Int32) then ((0 : Int32), (u_24.2.1, u_24.2.2.1, u_24.1, (0 : Int32))) else (if (2 : Int32) < u_24.2.2.1 then (if (5 : Int32) < u_24.2.2.1 then ((1 : Int32), (u_24.2.1, u_24.2.2.1, u_24.1, (0 : Int32))) else (let u_31 : Int32 × PrV := (f_X6_readSign (u_24.2.1, u_24.2.2.1, u_24.1, (0 : Int32)) sb (32 : Int32)); (if u_31.1 = (0 : Int32) then ((0 : Int32), (u_31.2.1, u_31.2.2.1, u_31.2.2.2.1, (-1 : Int32))) else (let u_36 : Int32 × PrV := (f_X6_readNumber u_31.2 sb); (if u_36.1 = (-1 : Int32) then ((0 : Int32), (u_36.2.1, u_36.2.2.1, u_36.2.2.2.1, u_36.1)) else ((1 : Int32), (u_36.2.1, u_36.2.2.1, u_36.2.2.2.1, u_36.1))))))) else (let u_40 : Int32 × PrV := (f_X6_readDigit (u_24.2.1, u_24.2.2.1, u_24.1, (0 : Int32)) sb); (if u_40.1 = (-1 : Int32) then ((0 : Int32), (u_40.2.1, u_40.2.2.1, u_40.2.2.2.1, u_40.1)) else ((1 : Int32), (u_40.2.1, u_40.2.2.1, u_40.2.2.2.1, u_40.1)))))))) := rfl
  have hok : (if (5 : Int32) < q.2.1 then (ok_X6_readNumber q sb ∧ (let u_4 : Int32 × PrV := (f_X6_readNumber q sb); (if u_4.1 = (-1 : Int32) then True else (if (2 : Int32) < u_4.2.2.1 then (if (5 : Int32) < u_4.2.2.1 then True else (ok_X6_readSign (u_4.2.1, u_4.2.2.1, u_4.1, (0 : Int32)) sb (32 : Int32) ∧ (let u_11 : Int32 × PrV := (f_X6_readSign (u_4.2.1, u_4.2.2.1, u_4.1, (0 : Int32)) sb (32 : Int32)); (if u_11.1 = (0 : Int32) then True else (ok_X6_readNumber u_11.2 sb ∧ True))))) else (ok_X6_readDigit (u_4.2.1, u_4.2.2.1, u_4.1, (0 : Int32)) sb ∧ True))))) else (ok_X6_readDigit q sb ∧ (let u_24 : Int32 × PrV := (f_X6_readDigit q sb); (if u_24.1 = (-1 : Int32) then True else (if (2 : Int32) < u_24.2.2.1 then (if (5 : Int32) < u_24.2.2.1 then True else (ok_X6_readSign (u_24.2.1, u_24.2.2.1, u_24.1, (0 : Int32)) sb (32 : Int32) ∧ (let u_31 : Int32 × PrV := (f_X6_readSign (u_24.2.1, u_24.2.2.1, u_24.1, (0 : Int32)) sb (32 : Int32)); (if u_31.1 = (0 : Int32) then True else (ok_X6_readNumber u_31.2 sb ∧ True))))) else (ok_X6_readDigit (u_24.2.1, u_24.2.2.1, u_24.1, (0 : Int32)) sb ∧ True)))))) := hok
  refine lv_aload_n hx hb dX6_readArguments_0 rfl (lv_at hl 0 rfl) ?_
  refine lv_aload_n hx hb dX6_readArguments_1 rfl (lv_at hl 0 rfl) ?_
  refine va_get (D := G.1) (ci := 9) (v := .int q.2.1) (C := RX6) (T := TX6) (N := 5) hx hb hts uws_X6 hown hK hP 0 rfl rfl 1 (by decide) (hts _ u_1077) (fun _ h9 => h9) rfl dX6_readArguments_2 ?_
  refine lv_iconst (v := (5 : Int32)) hx hb dX6_readArguments_5 (by decide) ?_
  refine lv_icmp_gt (tgt := 16) hx hb dX6_readArguments_6 (by decide) (fun c_1 => ?_) (fun c_1 => ?_)
  · have hF := hF.trans (if_pos c_1)
    have hok := Eq.mp (if_pos c_1) hok
    refine lv_aload_n hx hb dX6_readArguments_16 rfl (lv_at hl 0 rfl) ?_
    have k_2 := hok.1
    have hok := hok.2
    refine w_V (own := RX6) (cs := [[(qh0, .inr (9, [.int q.1, .int q.2.1, .int q.2.2.1, .int q.2.2.2, .ref sbh0]))], [(sbh0, .inr (1, [.ref sbh1, .int (0 : Int32), .int sb.2.2.1, .int sb.2.2.2]))], [(sbh1, .inl (G.2.1 2, sb.1, .inl sb.2.1))]]) (rs := []) (As := []) (rest := [.ref qh0]) (c_X6_readNumber l G qh0 sbh0 sbh1 s.heap.size q sb k_2) ⟨hx, hb, hml, hown, hts⟩ g_X6_87 hdv_X6_readNumber hK hST hS hP hD hA [0, 1, 2] [] rfl rfl rfl (k0 := 0) rfl rfl rfl ⟨Nat.le_of_ble_eq_true rfl, Nat.le_of_ble_eq_true rfl⟩ ⟨Nat.le_of_ble_eq_true rfl, Nat.le_of_ble_eq_true rfl⟩ rfl hl.1 rfl (Nat.le_of_ble_eq_true rfl) dX6_readArguments_17 (fun u_4 H locs huu hP hD hS => ?_)
    have eu_4 := huu
    have hP : va_P G.1 vwCl (fl [[(qh0, .inr (9, [.int u_4.2.1, .int u_4.2.2.1, .int u_4.2.2.2.1, .int u_4.2.2.2.2, .ref sbh0]))], [(sbh0, .inr (1, [.ref sbh1, .int (0 : Int32), .int sb.2.2.1, .int sb.2.2.2]))], [(sbh1, .inl (G.2.1 2, sb.1, .inl sb.2.1))]]) H := hP
    have hD : va_D A (fl [[(qh0, .inr (9, [.int u_4.2.1, .int u_4.2.2.1, .int u_4.2.2.2.1, .int u_4.2.2.2.2, .ref sbh0]))], [(sbh0, .inr (1, [.ref sbh1, .int (0 : Int32), .int sb.2.2.1, .int sb.2.2.2]))], [(sbh1, .inl (G.2.1 2, sb.1, .inl sb.2.1))]]) := hD
    refine W.eq (g2 := F0 m 20 ls [.int u_4.1, .ref qh0]) rfl ?_
    have hF : f_X6_readArguments q sb = (if u_4.1 = (-1 : Int32) then ((0 : Int32), (u_4.2.1, u_4.2.2.1, u_4.1, (0 : Int32))) else (if (2 : Int32) < u_4.2.2.1 then (if (5 : Int32) < u_4.2.2.1 then ((1 : Int32), (u_4.2.1, u_4.2.2.1, u_4.1, (0 : Int32))) else (let u_11 : Int32 × PrV := (f_X6_readSign (u_4.2.1, u_4.2.2.1, u_4.1, (0 : Int32)) sb (32 : Int32)); (if u_11.1 = (0 : Int32) then ((0 : Int32), (u_11.2.1, u_11.2.2.1, u_11.2.2.2.1, (-1 : Int32))) else (let u_16 : Int32 × PrV := (f_X6_readNumber u_11.2 sb); (if u_16.1 = (-1 : Int32) then ((0 : Int32), (u_16.2.1, u_16.2.2.1, u_16.2.2.2.1, u_16.1)) else ((1 : Int32), (u_16.2.1, u_16.2.2.1, u_16.2.2.2.1, u_16.1))))))) else (let u_20 : Int32 × PrV := (f_X6_readDigit (u_4.2.1, u_4.2.2.1, u_4.1, (0 : Int32)) sb); (if u_20.1 = (-1 : Int32) then ((0 : Int32), (u_20.2.1, u_20.2.2.1, u_20.2.2.2.1, u_20.1)) else ((1 : Int32), (u_20.2.1, u_20.2.2.1, u_20.2.2.2.1, u_20.1)))))) := by subst eu_4; exact hF
    have hok : (if u_4.1 = (-1 : Int32) then True else (if (2 : Int32) < u_4.2.2.1 then (if (5 : Int32) < u_4.2.2.1 then True else (ok_X6_readSign (u_4.2.1, u_4.2.2.1, u_4.1, (0 : Int32)) sb (32 : Int32) ∧ (let u_11 : Int32 × PrV := (f_X6_readSign (u_4.2.1, u_4.2.2.1, u_4.1, (0 : Int32)) sb (32 : Int32)); (if u_11.1 = (0 : Int32) then True else (ok_X6_readNumber u_11.2 sb ∧ True))))) else (ok_X6_readDigit (u_4.2.1, u_4.2.2.1, u_4.1, (0 : Int32)) sb ∧ True))) := by subst eu_4; exact hok
    refine va_put (D := G.1) (ci := 9) (v := .int u_4.1) (ty := .int) (C := RX6) (T := TX6) (N := 5) hx hb hts uws_X6 tyX6 tyX6_ok nmX6 hown hK hP hD hS 0 rfl rfl 2 (by decide) (hts _ u_1079) (fun _ h9 => h9) rfl (by decide +kernel) rfl rfl (Nat.le_of_ble_eq_true rfl) dX6_readArguments_20 (fun H locs hP hD hS => ?_)
    have hP : va_P G.1 vwCl (fl [[(qh0, .inr (9, [.int u_4.2.1, .int u_4.2.2.1, .int u_4.1, .int u_4.2.2.2.2, .ref sbh0]))], [(sbh0, .inr (1, [.ref sbh1, .int (0 : Int32), .int sb.2.2.1, .int sb.2.2.2]))], [(sbh1, .inl (G.2.1 2, sb.1, .inl sb.2.1))]]) H := hP
    have hD : va_D A (fl [[(qh0, .inr (9, [.int u_4.2.1, .int u_4.2.2.1, .int u_4.1, .int u_4.2.2.2.2, .ref sbh0]))], [(sbh0, .inr (1, [.ref sbh1, .int (0 : Int32), .int sb.2.2.1, .int sb.2.2.2]))], [(sbh1, .inl (G.2.1 2, sb.1, .inl sb.2.1))]]) := hD
    refine lv_aload_n hx hb dX6_readArguments_23 rfl (lv_at hl 0 rfl) ?_
    refine lv_iconst (v := (0 : Int32)) hx hb dX6_readArguments_24 (by decide) ?_
    refine va_put (D := G.1) (ci := 9) (v := .int (0 : Int32)) (ty := .int) (C := RX6) (T := TX6) (N := 5) hx hb hts uws_X6 tyX6 tyX6_ok nmX6 hown hK hP hD hS 0 rfl rfl 3 (by decide) (hts _ u_1081) (fun _ h9 => h9) rfl (by decide +kernel) rfl rfl (Nat.le_of_ble_eq_true rfl) dX6_readArguments_25 (fun H locs hP hD hS => ?_)
    have hP : va_P G.1 vwCl (fl [[(qh0, .inr (9, [.int u_4.2.1, .int u_4.2.2.1, .int u_4.1, .int (0 : Int32), .ref sbh0]))], [(sbh0, .inr (1, [.ref sbh1, .int (0 : Int32), .int sb.2.2.1, .int sb.2.2.2]))], [(sbh1, .inl (G.2.1 2, sb.1, .inl sb.2.1))]]) H := hP
    have hD : va_D A (fl [[(qh0, .inr (9, [.int u_4.2.1, .int u_4.2.2.1, .int u_4.1, .int (0 : Int32), .ref sbh0]))], [(sbh0, .inr (1, [.ref sbh1, .int (0 : Int32), .int sb.2.2.1, .int sb.2.2.2]))], [(sbh1, .inl (G.2.1 2, sb.1, .inl sb.2.1))]]) := hD
    refine lv_aload_n hx hb dX6_readArguments_28 rfl (lv_at hl 0 rfl) ?_
    refine va_get (D := G.1) (ci := 9) (v := .int u_4.1) (C := RX6) (T := TX6) (N := 5) hx hb hts uws_X6 hown hK hP 0 rfl rfl 2 (by decide) (hts _ u_1079) (fun _ h9 => h9) rfl dX6_readArguments_29 ?_
    refine lv_iconst (v := (-1 : Int32)) hx hb dX6_readArguments_32 (by decide) ?_
    refine lv_icmp_ne (tgt := 38) hx hb dX6_readArguments_33 (by decide) (fun c_5 => ?_) (fun c_5 => ?_)
    · have hF := hF.trans (if_neg c_5)
      have hok := Eq.mp (if_neg c_5) hok
      refine lv_aload_n hx hb dX6_readArguments_38 rfl (lv_at hl 0 rfl) ?_
      refine va_get (D := G.1) (ci := 9) (v := .int u_4.2.2.1) (C := RX6) (T := TX6) (N := 5) hx hb hts uws_X6 hown hK hP 0 rfl rfl 1 (by decide) (hts _ u_1077) (fun _ h9 => h9) rfl dX6_readArguments_39 ?_
      refine lv_iconst (v := (2 : Int32)) hx hb dX6_readArguments_42 (by decide) ?_
      refine lv_icmp_gt (tgt := 57) hx hb dX6_readArguments_43 (by decide) (fun c_6 => ?_) (fun c_6 => ?_)
      · have hF := hF.trans (if_pos c_6)
        have hok := Eq.mp (if_pos c_6) hok
        refine lv_aload_n hx hb dX6_readArguments_57 rfl (lv_at hl 0 rfl) ?_
        refine va_get (D := G.1) (ci := 9) (v := .int u_4.2.2.1) (C := RX6) (T := TX6) (N := 5) hx hb hts uws_X6 hown hK hP 0 rfl rfl 1 (by decide) (hts _ u_1077) (fun _ h9 => h9) rfl dX6_readArguments_58 ?_
        refine lv_iconst (v := (5 : Int32)) hx hb dX6_readArguments_61 (by decide) ?_
        refine lv_icmp_gt (tgt := 86) hx hb dX6_readArguments_62 (by decide) (fun c_7 => ?_) (fun c_7 => ?_)
        · have hF := hF.trans (if_pos c_7)
          have hok := Eq.mp (if_pos c_7) hok
          refine lv_aload_n hx hb dX6_readArguments_86 rfl (lv_at hl 0 rfl) ?_
          refine va_get (D := G.1) (ci := 9) (v := .int (0 : Int32)) (C := RX6) (T := TX6) (N := 5) hx hb hts uws_X6 hown hK hP 0 rfl rfl 3 (by decide) (hts _ u_1081) (fun _ h9 => h9) rfl dX6_readArguments_87 ?_
          refine lv_iconst (v := (-1 : Int32)) hx hb dX6_readArguments_90 (by decide) ?_
          refine lv_icmp_eq (tgt := 98) hx hb dX6_readArguments_91 (by decide) (fun c_8 => ?_) (fun c_8 => ?_)
          · exact absurd c_8 (by decide)
          · refine lv_iconst (v := (1 : Int32)) hx hb dX6_readArguments_94 (by decide) ?_
            refine lv_goto (tgt := 99) hx hb dX6_readArguments_95 (by decide) ?_
            exact w_ret (u := ((1 : Int32), (u_4.2.1, u_4.2.2.1, u_4.1, (0 : Int32)))) hx hb hr hlk rfl hS rfl ⟨hF.symm, (by rw [hF]; exact (rfl : narrow .boolean (.int (1 : Int32)) = .int (1 : Int32)))⟩ hP hD (Nat.le_of_ble_eq_true rfl) (Nat.le_of_ble_eq_true rfl) dX6_readArguments_99
        · have hF := hF.trans (if_neg c_7)
          have hok := Eq.mp (if_neg c_7) hok
          refine lv_aload_n hx hb dX6_readArguments_65 rfl (lv_at hl 0 rfl) ?_
          refine lv_aload_n hx hb dX6_readArguments_66 rfl (lv_at hl 0 rfl) ?_
          refine lv_bipush (v := (32 : Int32)) hx hb dX6_readArguments_67 (by decide) ?_
          have k_9 := hok.1
          have hok := hok.2
          refine w_V (own := RX6) (cs := [[(qh0, .inr (9, [.int u_4.2.1, .int u_4.2.2.1, .int u_4.1, .int (0 : Int32), .ref sbh0]))], [(sbh0, .inr (1, [.ref sbh1, .int (0 : Int32), .int sb.2.2.1, .int sb.2.2.2]))], [(sbh1, .inl (G.2.1 2, sb.1, .inl sb.2.1))]]) (rs := []) (As := [.int (32 : Int32)]) (rest := [.ref qh0]) (c_X6_readSign l G qh0 sbh0 sbh1 H.size (u_4.2.1, u_4.2.2.1, u_4.1, (0 : Int32)) sb (32 : Int32) k_9) ⟨hx, hb, hml, hown, hts⟩ g_X6_50 hdv_X6_readSign hK hST hS hP hD hA [0, 1, 2] [] rfl rfl rfl (k0 := 0) rfl rfl rfl ⟨Nat.le_of_ble_eq_true rfl, Nat.le_of_ble_eq_true rfl⟩ ⟨Nat.le_of_ble_eq_true rfl, Nat.le_of_ble_eq_true rfl⟩ rfl hl.1 rfl (Nat.le_of_ble_eq_true rfl) dX6_readArguments_69 (fun u_11 H locs huu hP hD hS => ?_)
          obtain ⟨huu, b_10⟩ := huu
          rw [← huu] at b_10
          have eu_11 := huu
          have hP : va_P G.1 vwCl (fl [[(qh0, .inr (9, [.int u_11.2.1, .int u_11.2.2.1, .int u_11.2.2.2.1, .int u_11.2.2.2.2, .ref sbh0]))], [(sbh0, .inr (1, [.ref sbh1, .int (0 : Int32), .int sb.2.2.1, .int sb.2.2.2]))], [(sbh1, .inl (G.2.1 2, sb.1, .inl sb.2.1))]]) H := hP
          have hD : va_D A (fl [[(qh0, .inr (9, [.int u_11.2.1, .int u_11.2.2.1, .int u_11.2.2.2.1, .int u_11.2.2.2.2, .ref sbh0]))], [(sbh0, .inr (1, [.ref sbh1, .int (0 : Int32), .int sb.2.2.1, .int sb.2.2.2]))], [(sbh1, .inl (G.2.1 2, sb.1, .inl sb.2.1))]]) := hD
          refine W.eq (g2 := F0 m 72 ls [.int u_11.1, .ref qh0]) rfl ?_
          have hF : f_X6_readArguments q sb = (if u_11.1 = (0 : Int32) then ((0 : Int32), (u_11.2.1, u_11.2.2.1, u_11.2.2.2.1, (-1 : Int32))) else (let u_16 : Int32 × PrV := (f_X6_readNumber u_11.2 sb); (if u_16.1 = (-1 : Int32) then ((0 : Int32), (u_16.2.1, u_16.2.2.1, u_16.2.2.2.1, u_16.1)) else ((1 : Int32), (u_16.2.1, u_16.2.2.1, u_16.2.2.2.1, u_16.1))))) := by subst eu_11; exact hF
          have hok : (if u_11.1 = (0 : Int32) then True else (ok_X6_readNumber u_11.2 sb ∧ True)) := by subst eu_11; exact hok
          refine lv_if_eq (tgt := 82) hx hb dX6_readArguments_72 (by decide) (fun c_12 => ?_) (fun c_12 => ?_)
          · have hF := hF.trans (if_pos c_12)
            have hok := Eq.mp (if_pos c_12) hok
            refine lv_iconst (v := (-1 : Int32)) hx hb dX6_readArguments_82 (by decide) ?_
            refine va_put (D := G.1) (ci := 9) (v := .int (-1 : Int32)) (ty := .int) (C := RX6) (T := TX6) (N := 5) hx hb hts uws_X6 tyX6 tyX6_ok nmX6 hown hK hP hD hS 0 rfl rfl 3 (by decide) (hts _ u_1081) (fun _ h9 => h9) rfl (by decide +kernel) rfl rfl (Nat.le_of_ble_eq_true rfl) dX6_readArguments_83 (fun H locs hP hD hS => ?_)
            have hP : va_P G.1 vwCl (fl [[(qh0, .inr (9, [.int u_11.2.1, .int u_11.2.2.1, .int u_11.2.2.2.1, .int (-1 : Int32), .ref sbh0]))], [(sbh0, .inr (1, [.ref sbh1, .int (0 : Int32), .int sb.2.2.1, .int sb.2.2.2]))], [(sbh1, .inl (G.2.1 2, sb.1, .inl sb.2.1))]]) H := hP
            have hD : va_D A (fl [[(qh0, .inr (9, [.int u_11.2.1, .int u_11.2.2.1, .int u_11.2.2.2.1, .int (-1 : Int32), .ref sbh0]))], [(sbh0, .inr (1, [.ref sbh1, .int (0 : Int32), .int sb.2.2.1, .int sb.2.2.2]))], [(sbh1, .inl (G.2.1 2, sb.1, .inl sb.2.1))]]) := hD
            refine lv_aload_n hx hb dX6_readArguments_86 rfl (lv_at hl 0 rfl) ?_
            refine va_get (D := G.1) (ci := 9) (v := .int (-1 : Int32)) (C := RX6) (T := TX6) (N := 5) hx hb hts uws_X6 hown hK hP 0 rfl rfl 3 (by decide) (hts _ u_1081) (fun _ h9 => h9) rfl dX6_readArguments_87 ?_
            refine lv_iconst (v := (-1 : Int32)) hx hb dX6_readArguments_90 (by decide) ?_
            refine lv_icmp_eq (tgt := 98) hx hb dX6_readArguments_91 (by decide) (fun c_13 => ?_) (fun c_13 => ?_)
            · refine lv_iconst (v := (0 : Int32)) hx hb dX6_readArguments_98 (by decide) ?_
              exact w_ret (u := ((0 : Int32), (u_11.2.1, u_11.2.2.1, u_11.2.2.2.1, (-1 : Int32)))) hx hb hr hlk rfl hS rfl ⟨hF.symm, (by rw [hF]; exact (rfl : narrow .boolean (.int (0 : Int32)) = .int (0 : Int32)))⟩ hP hD (Nat.le_of_ble_eq_true rfl) (Nat.le_of_ble_eq_true rfl) dX6_readArguments_99
            · exact absurd c_13 (by decide)
          · have hF := hF.trans (if_neg c_12)
            have hok := Eq.mp (if_neg c_12) hok
            refine lv_aload_n hx hb dX6_readArguments_75 rfl (lv_at hl 0 rfl) ?_
            have k_14 := hok.1
            have hok := hok.2
            refine w_V (own := RX6) (cs := [[(qh0, .inr (9, [.int u_11.2.1, .int u_11.2.2.1, .int u_11.2.2.2.1, .int u_11.2.2.2.2, .ref sbh0]))], [(sbh0, .inr (1, [.ref sbh1, .int (0 : Int32), .int sb.2.2.1, .int sb.2.2.2]))], [(sbh1, .inl (G.2.1 2, sb.1, .inl sb.2.1))]]) (rs := []) (As := []) (rest := [.ref qh0]) (c_X6_readNumber l G qh0 sbh0 sbh1 H.size u_11.2 sb k_14) ⟨hx, hb, hml, hown, hts⟩ g_X6_87 hdv_X6_readNumber hK hST hS hP hD hA [0, 1, 2] [] rfl rfl rfl (k0 := 0) rfl rfl rfl ⟨Nat.le_of_ble_eq_true rfl, Nat.le_of_ble_eq_true rfl⟩ ⟨Nat.le_of_ble_eq_true rfl, Nat.le_of_ble_eq_true rfl⟩ rfl hl.1 rfl (Nat.le_of_ble_eq_true rfl) dX6_readArguments_76 (fun u_16 H locs huu hP hD hS => ?_)
            have eu_16 := huu
            have hP : va_P G.1 vwCl (fl [[(qh0, .inr (9, [.int u_16.2.1, .int u_16.2.2.1, .int u_16.2.2.2.1, .int u_16.2.2.2.2, .ref sbh0]))], [(sbh0, .inr (1, [.ref sbh1, .int (0 : Int32), .int sb.2.2.1, .int sb.2.2.2]))], [(sbh1, .inl (G.2.1 2, sb.1, .inl sb.2.1))]]) H := hP
            have hD : va_D A (fl [[(qh0, .inr (9, [.int u_16.2.1, .int u_16.2.2.1, .int u_16.2.2.2.1, .int u_16.2.2.2.2, .ref sbh0]))], [(sbh0, .inr (1, [.ref sbh1, .int (0 : Int32), .int sb.2.2.1, .int sb.2.2.2]))], [(sbh1, .inl (G.2.1 2, sb.1, .inl sb.2.1))]]) := hD
            refine W.eq (g2 := F0 m 79 ls [.int u_16.1, .ref qh0]) rfl ?_
            have hF : f_X6_readArguments q sb = (if u_16.1 = (-1 : Int32) then ((0 : Int32), (u_16.2.1, u_16.2.2.1, u_16.2.2.2.1, u_16.1)) else ((1 : Int32), (u_16.2.1, u_16.2.2.1, u_16.2.2.2.1, u_16.1))) := by subst eu_16; exact hF
            refine lv_goto (tgt := 83) hx hb dX6_readArguments_79 (by decide) ?_
            refine va_put (D := G.1) (ci := 9) (v := .int u_16.1) (ty := .int) (C := RX6) (T := TX6) (N := 5) hx hb hts uws_X6 tyX6 tyX6_ok nmX6 hown hK hP hD hS 0 rfl rfl 3 (by decide) (hts _ u_1081) (fun _ h9 => h9) rfl (by decide +kernel) rfl rfl (Nat.le_of_ble_eq_true rfl) dX6_readArguments_83 (fun H locs hP hD hS => ?_)
            have hP : va_P G.1 vwCl (fl [[(qh0, .inr (9, [.int u_16.2.1, .int u_16.2.2.1, .int u_16.2.2.2.1, .int u_16.1, .ref sbh0]))], [(sbh0, .inr (1, [.ref sbh1, .int (0 : Int32), .int sb.2.2.1, .int sb.2.2.2]))], [(sbh1, .inl (G.2.1 2, sb.1, .inl sb.2.1))]]) H := hP
            have hD : va_D A (fl [[(qh0, .inr (9, [.int u_16.2.1, .int u_16.2.2.1, .int u_16.2.2.2.1, .int u_16.1, .ref sbh0]))], [(sbh0, .inr (1, [.ref sbh1, .int (0 : Int32), .int sb.2.2.1, .int sb.2.2.2]))], [(sbh1, .inl (G.2.1 2, sb.1, .inl sb.2.1))]]) := hD
            refine lv_aload_n hx hb dX6_readArguments_86 rfl (lv_at hl 0 rfl) ?_
            refine va_get (D := G.1) (ci := 9) (v := .int u_16.1) (C := RX6) (T := TX6) (N := 5) hx hb hts uws_X6 hown hK hP 0 rfl rfl 3 (by decide) (hts _ u_1081) (fun _ h9 => h9) rfl dX6_readArguments_87 ?_
            refine lv_iconst (v := (-1 : Int32)) hx hb dX6_readArguments_90 (by decide) ?_
            refine lv_icmp_eq (tgt := 98) hx hb dX6_readArguments_91 (by decide) (fun c_17 => ?_) (fun c_17 => ?_)
            · have hF := hF.trans (if_pos c_17)
              refine lv_iconst (v := (0 : Int32)) hx hb dX6_readArguments_98 (by decide) ?_
              exact w_ret (u := ((0 : Int32), (u_16.2.1, u_16.2.2.1, u_16.2.2.2.1, u_16.1))) hx hb hr hlk rfl hS rfl ⟨hF.symm, (by rw [hF]; exact (rfl : narrow .boolean (.int (0 : Int32)) = .int (0 : Int32)))⟩ hP hD (Nat.le_of_ble_eq_true rfl) (Nat.le_of_ble_eq_true rfl) dX6_readArguments_99
            · have hF := hF.trans (if_neg c_17)
              refine lv_iconst (v := (1 : Int32)) hx hb dX6_readArguments_94 (by decide) ?_
              refine lv_goto (tgt := 99) hx hb dX6_readArguments_95 (by decide) ?_
              exact w_ret (u := ((1 : Int32), (u_16.2.1, u_16.2.2.1, u_16.2.2.2.1, u_16.1))) hx hb hr hlk rfl hS rfl ⟨hF.symm, (by rw [hF]; exact (rfl : narrow .boolean (.int (1 : Int32)) = .int (1 : Int32)))⟩ hP hD (Nat.le_of_ble_eq_true rfl) (Nat.le_of_ble_eq_true rfl) dX6_readArguments_99
      · have hF := hF.trans (if_neg c_6)
        have hok := Eq.mp (if_neg c_6) hok
        refine lv_aload_n hx hb dX6_readArguments_46 rfl (lv_at hl 0 rfl) ?_
        refine lv_aload_n hx hb dX6_readArguments_47 rfl (lv_at hl 0 rfl) ?_
        have k_18 := hok.1
        have hok := hok.2
        refine w_V (own := RX6) (cs := [[(qh0, .inr (9, [.int u_4.2.1, .int u_4.2.2.1, .int u_4.1, .int (0 : Int32), .ref sbh0]))], [(sbh0, .inr (1, [.ref sbh1, .int (0 : Int32), .int sb.2.2.1, .int sb.2.2.2]))], [(sbh1, .inl (G.2.1 2, sb.1, .inl sb.2.1))]]) (rs := []) (As := []) (rest := [.ref qh0]) (c_X6_readDigit l G qh0 sbh0 sbh1 H.size (u_4.2.1, u_4.2.2.1, u_4.1, (0 : Int32)) sb k_18) ⟨hx, hb, hml, hown, hts⟩ g_X6_84 hdv_X6_readDigit hK hST hS hP hD hA [0, 1, 2] [] rfl rfl rfl (k0 := 0) rfl rfl rfl ⟨Nat.le_of_ble_eq_true rfl, Nat.le_of_ble_eq_true rfl⟩ ⟨Nat.le_of_ble_eq_true rfl, Nat.le_of_ble_eq_true rfl⟩ rfl hl.1 rfl (Nat.le_of_ble_eq_true rfl) dX6_readArguments_48 (fun u_20 H locs huu hP hD hS => ?_)
        have eu_20 := huu
        have hP : va_P G.1 vwCl (fl [[(qh0, .inr (9, [.int u_20.2.1, .int u_20.2.2.1, .int u_20.2.2.2.1, .int u_20.2.2.2.2, .ref sbh0]))], [(sbh0, .inr (1, [.ref sbh1, .int (0 : Int32), .int sb.2.2.1, .int sb.2.2.2]))], [(sbh1, .inl (G.2.1 2, sb.1, .inl sb.2.1))]]) H := hP
        have hD : va_D A (fl [[(qh0, .inr (9, [.int u_20.2.1, .int u_20.2.2.1, .int u_20.2.2.2.1, .int u_20.2.2.2.2, .ref sbh0]))], [(sbh0, .inr (1, [.ref sbh1, .int (0 : Int32), .int sb.2.2.1, .int sb.2.2.2]))], [(sbh1, .inl (G.2.1 2, sb.1, .inl sb.2.1))]]) := hD
        refine W.eq (g2 := F0 m 51 ls [.int u_20.1, .ref qh0]) rfl ?_
        have hF : f_X6_readArguments q sb = (if u_20.1 = (-1 : Int32) then ((0 : Int32), (u_20.2.1, u_20.2.2.1, u_20.2.2.2.1, u_20.1)) else ((1 : Int32), (u_20.2.1, u_20.2.2.1, u_20.2.2.2.1, u_20.1))) := by subst eu_20; exact hF
        refine va_put (D := G.1) (ci := 9) (v := .int u_20.1) (ty := .int) (C := RX6) (T := TX6) (N := 5) hx hb hts uws_X6 tyX6 tyX6_ok nmX6 hown hK hP hD hS 0 rfl rfl 3 (by decide) (hts _ u_1081) (fun _ h9 => h9) rfl (by decide +kernel) rfl rfl (Nat.le_of_ble_eq_true rfl) dX6_readArguments_51 (fun H locs hP hD hS => ?_)
        have hP : va_P G.1 vwCl (fl [[(qh0, .inr (9, [.int u_20.2.1, .int u_20.2.2.1, .int u_20.2.2.2.1, .int u_20.1, .ref sbh0]))], [(sbh0, .inr (1, [.ref sbh1, .int (0 : Int32), .int sb.2.2.1, .int sb.2.2.2]))], [(sbh1, .inl (G.2.1 2, sb.1, .inl sb.2.1))]]) H := hP
        have hD : va_D A (fl [[(qh0, .inr (9, [.int u_20.2.1, .int u_20.2.2.1, .int u_20.2.2.2.1, .int u_20.1, .ref sbh0]))], [(sbh0, .inr (1, [.ref sbh1, .int (0 : Int32), .int sb.2.2.1, .int sb.2.2.2]))], [(sbh1, .inl (G.2.1 2, sb.1, .inl sb.2.1))]]) := hD
        refine lv_goto (tgt := 86) hx hb dX6_readArguments_54 (by decide) ?_
        refine lv_aload_n hx hb dX6_readArguments_86 rfl (lv_at hl 0 rfl) ?_
        refine va_get (D := G.1) (ci := 9) (v := .int u_20.1) (C := RX6) (T := TX6) (N := 5) hx hb hts uws_X6 hown hK hP 0 rfl rfl 3 (by decide) (hts _ u_1081) (fun _ h9 => h9) rfl dX6_readArguments_87 ?_
        refine lv_iconst (v := (-1 : Int32)) hx hb dX6_readArguments_90 (by decide) ?_
        refine lv_icmp_eq (tgt := 98) hx hb dX6_readArguments_91 (by decide) (fun c_21 => ?_) (fun c_21 => ?_)
        · have hF := hF.trans (if_pos c_21)
          refine lv_iconst (v := (0 : Int32)) hx hb dX6_readArguments_98 (by decide) ?_
          exact w_ret (u := ((0 : Int32), (u_20.2.1, u_20.2.2.1, u_20.2.2.2.1, u_20.1))) hx hb hr hlk rfl hS rfl ⟨hF.symm, (by rw [hF]; exact (rfl : narrow .boolean (.int (0 : Int32)) = .int (0 : Int32)))⟩ hP hD (Nat.le_of_ble_eq_true rfl) (Nat.le_of_ble_eq_true rfl) dX6_readArguments_99
        · have hF := hF.trans (if_neg c_21)
          refine lv_iconst (v := (1 : Int32)) hx hb dX6_readArguments_94 (by decide) ?_
          refine lv_goto (tgt := 99) hx hb dX6_readArguments_95 (by decide) ?_
          exact w_ret (u := ((1 : Int32), (u_20.2.1, u_20.2.2.1, u_20.2.2.2.1, u_20.1))) hx hb hr hlk rfl hS rfl ⟨hF.symm, (by rw [hF]; exact (rfl : narrow .boolean (.int (1 : Int32)) = .int (1 : Int32)))⟩ hP hD (Nat.le_of_ble_eq_true rfl) (Nat.le_of_ble_eq_true rfl) dX6_readArguments_99
    · have hF := hF.trans (if_pos c_5)
      have hok := Eq.mp (if_pos c_5) hok
      refine lv_iconst (v := (0 : Int32)) hx hb dX6_readArguments_36 (by decide) ?_
      exact w_ret (u := ((0 : Int32), (u_4.2.1, u_4.2.2.1, u_4.1, (0 : Int32)))) hx hb hr hlk rfl hS rfl ⟨hF.symm, (by rw [hF]; exact (rfl : narrow .boolean (.int (0 : Int32)) = .int (0 : Int32)))⟩ hP hD (Nat.le_of_ble_eq_true rfl) (Nat.le_of_ble_eq_true rfl) dX6_readArguments_37
  · have hF := hF.trans (if_neg c_1)
    have hok := Eq.mp (if_neg c_1) hok
    refine lv_aload_n hx hb dX6_readArguments_9 rfl (lv_at hl 0 rfl) ?_
    have k_22 := hok.1
    have hok := hok.2
    refine w_V (own := RX6) (cs := [[(qh0, .inr (9, [.int q.1, .int q.2.1, .int q.2.2.1, .int q.2.2.2, .ref sbh0]))], [(sbh0, .inr (1, [.ref sbh1, .int (0 : Int32), .int sb.2.2.1, .int sb.2.2.2]))], [(sbh1, .inl (G.2.1 2, sb.1, .inl sb.2.1))]]) (rs := []) (As := []) (rest := [.ref qh0]) (c_X6_readDigit l G qh0 sbh0 sbh1 s.heap.size q sb k_22) ⟨hx, hb, hml, hown, hts⟩ g_X6_84 hdv_X6_readDigit hK hST hS hP hD hA [0, 1, 2] [] rfl rfl rfl (k0 := 0) rfl rfl rfl ⟨Nat.le_of_ble_eq_true rfl, Nat.le_of_ble_eq_true rfl⟩ ⟨Nat.le_of_ble_eq_true rfl, Nat.le_of_ble_eq_true rfl⟩ rfl hl.1 rfl (Nat.le_of_ble_eq_true rfl) dX6_readArguments_10 (fun u_24 H locs huu hP hD hS => ?_)
    have eu_24 := huu
    have hP : va_P G.1 vwCl (fl [[(qh0, .inr (9, [.int u_24.2.1, .int u_24.2.2.1, .int u_24.2.2.2.1, .int u_24.2.2.2.2, .ref sbh0]))], [(sbh0, .inr (1, [.ref sbh1, .int (0 : Int32), .int sb.2.2.1, .int sb.2.2.2]))], [(sbh1, .inl (G.2.1 2, sb.1, .inl sb.2.1))]]) H := hP
    have hD : va_D A (fl [[(qh0, .inr (9, [.int u_24.2.1, .int u_24.2.2.1, .int u_24.2.2.2.1, .int u_24.2.2.2.2, .ref sbh0]))], [(sbh0, .inr (1, [.ref sbh1, .int (0 : Int32), .int sb.2.2.1, .int sb.2.2.2]))], [(sbh1, .inl (G.2.1 2, sb.1, .inl sb.2.1))]]) := hD
    refine W.eq (g2 := F0 m 13 ls [.int u_24.1, .ref qh0]) rfl ?_
    have hF : f_X6_readArguments q sb = (if u_24.1 = (-1 : Int32) then ((0 : Int32), (u_24.2.1, u_24.2.2.1, u_24.1, (0 : Int32))) else (if (2 : Int32) < u_24.2.2.1 then (if (5 : Int32) < u_24.2.2.1 then ((1 : Int32), (u_24.2.1, u_24.2.2.1, u_24.1, (0 : Int32))) else (let u_31 : Int32 × PrV := (f_X6_readSign (u_24.2.1, u_24.2.2.1, u_24.1, (0 : Int32)) sb (32 : Int32)); (if u_31.1 = (0 : Int32) then ((0 : Int32), (u_31.2.1, u_31.2.2.1, u_31.2.2.2.1, (-1 : Int32))) else (let u_36 : Int32 × PrV := (f_X6_readNumber u_31.2 sb); (if u_36.1 = (-1 : Int32) then ((0 : Int32), (u_36.2.1, u_36.2.2.1, u_36.2.2.2.1, u_36.1)) else ((1 : Int32), (u_36.2.1, u_36.2.2.1, u_36.2.2.2.1, u_36.1))))))) else (let u_40 : Int32 × PrV := (f_X6_readDigit (u_24.2.1, u_24.2.2.1, u_24.1, (0 : Int32)) sb); (if u_40.1 = (-1 : Int32) then ((0 : Int32), (u_40.2.1, u_40.2.2.1, u_40.2.2.2.1, u_40.1)) else ((1 : Int32), (u_40.2.1, u_40.2.2.1, u_40.2.2.2.1, u_40.1)))))) := by subst eu_24; exact hF
    have hok : (if u_24.1 = (-1 : Int32) then True else (if (2 : Int32) < u_24.2.2.1 then (if (5 : Int32) < u_24.2.2.1 then True else (ok_X6_readSign (u_24.2.1, u_24.2.2.1, u_24.1, (0 : Int32)) sb (32 : Int32) ∧ (let u_31 : Int32 × PrV := (f_X6_readSign (u_24.2.1, u_24.2.2.1, u_24.1, (0 : Int32)) sb (32 : Int32)); (if u_31.1 = (0 : Int32) then True else (ok_X6_readNumber u_31.2 sb ∧ True))))) else (ok_X6_readDigit (u_24.2.1, u_24.2.2.1, u_24.1, (0 : Int32)) sb ∧ True))) := by subst eu_24; exact hok
    refine lv_goto (tgt := 20) hx hb dX6_readArguments_13 (by decide) ?_
    refine va_put (D := G.1) (ci := 9) (v := .int u_24.1) (ty := .int) (C := RX6) (T := TX6) (N := 5) hx hb hts uws_X6 tyX6 tyX6_ok nmX6 hown hK hP hD hS 0 rfl rfl 2 (by decide) (hts _ u_1079) (fun _ h9 => h9) rfl (by decide +kernel) rfl rfl (Nat.le_of_ble_eq_true rfl) dX6_readArguments_20 (fun H locs hP hD hS => ?_)
    have hP : va_P G.1 vwCl (fl [[(qh0, .inr (9, [.int u_24.2.1, .int u_24.2.2.1, .int u_24.1, .int u_24.2.2.2.2, .ref sbh0]))], [(sbh0, .inr (1, [.ref sbh1, .int (0 : Int32), .int sb.2.2.1, .int sb.2.2.2]))], [(sbh1, .inl (G.2.1 2, sb.1, .inl sb.2.1))]]) H := hP
    have hD : va_D A (fl [[(qh0, .inr (9, [.int u_24.2.1, .int u_24.2.2.1, .int u_24.1, .int u_24.2.2.2.2, .ref sbh0]))], [(sbh0, .inr (1, [.ref sbh1, .int (0 : Int32), .int sb.2.2.1, .int sb.2.2.2]))], [(sbh1, .inl (G.2.1 2, sb.1, .inl sb.2.1))]]) := hD
    refine lv_aload_n hx hb dX6_readArguments_23 rfl (lv_at hl 0 rfl) ?_
    refine lv_iconst (v := (0 : Int32)) hx hb dX6_readArguments_24 (by decide) ?_
    refine va_put (D := G.1) (ci := 9) (v := .int (0 : Int32)) (ty := .int) (C := RX6) (T := TX6) (N := 5) hx hb hts uws_X6 tyX6 tyX6_ok nmX6 hown hK hP hD hS 0 rfl rfl 3 (by decide) (hts _ u_1081) (fun _ h9 => h9) rfl (by decide +kernel) rfl rfl (Nat.le_of_ble_eq_true rfl) dX6_readArguments_25 (fun H locs hP hD hS => ?_)
    have hP : va_P G.1 vwCl (fl [[(qh0, .inr (9, [.int u_24.2.1, .int u_24.2.2.1, .int u_24.1, .int (0 : Int32), .ref sbh0]))], [(sbh0, .inr (1, [.ref sbh1, .int (0 : Int32), .int sb.2.2.1, .int sb.2.2.2]))], [(sbh1, .inl (G.2.1 2, sb.1, .inl sb.2.1))]]) H := hP
    have hD : va_D A (fl [[(qh0, .inr (9, [.int u_24.2.1, .int u_24.2.2.1, .int u_24.1, .int (0 : Int32), .ref sbh0]))], [(sbh0, .inr (1, [.ref sbh1, .int (0 : Int32), .int sb.2.2.1, .int sb.2.2.2]))], [(sbh1, .inl (G.2.1 2, sb.1, .inl sb.2.1))]]) := hD
    refine lv_aload_n hx hb dX6_readArguments_28 rfl (lv_at hl 0 rfl) ?_
    refine va_get (D := G.1) (ci := 9) (v := .int u_24.1) (C := RX6) (T := TX6) (N := 5) hx hb hts uws_X6 hown hK hP 0 rfl rfl 2 (by decide) (hts _ u_1079) (fun _ h9 => h9) rfl dX6_readArguments_29 ?_
    refine lv_iconst (v := (-1 : Int32)) hx hb dX6_readArguments_32 (by decide) ?_
    refine lv_icmp_ne (tgt := 38) hx hb dX6_readArguments_33 (by decide) (fun c_25 => ?_) (fun c_25 => ?_)
    · have hF := hF.trans (if_neg c_25)
      have hok := Eq.mp (if_neg c_25) hok
      refine lv_aload_n hx hb dX6_readArguments_38 rfl (lv_at hl 0 rfl) ?_
      refine va_get (D := G.1) (ci := 9) (v := .int u_24.2.2.1) (C := RX6) (T := TX6) (N := 5) hx hb hts uws_X6 hown hK hP 0 rfl rfl 1 (by decide) (hts _ u_1077) (fun _ h9 => h9) rfl dX6_readArguments_39 ?_
      refine lv_iconst (v := (2 : Int32)) hx hb dX6_readArguments_42 (by decide) ?_
      refine lv_icmp_gt (tgt := 57) hx hb dX6_readArguments_43 (by decide) (fun c_26 => ?_) (fun c_26 => ?_)
      · have hF := hF.trans (if_pos c_26)
        have hok := Eq.mp (if_pos c_26) hok
        refine lv_aload_n hx hb dX6_readArguments_57 rfl (lv_at hl 0 rfl) ?_
        refine va_get (D := G.1) (ci := 9) (v := .int u_24.2.2.1) (C := RX6) (T := TX6) (N := 5) hx hb hts uws_X6 hown hK hP 0 rfl rfl 1 (by decide) (hts _ u_1077) (fun _ h9 => h9) rfl dX6_readArguments_58 ?_
        refine lv_iconst (v := (5 : Int32)) hx hb dX6_readArguments_61 (by decide) ?_
        refine lv_icmp_gt (tgt := 86) hx hb dX6_readArguments_62 (by decide) (fun c_27 => ?_) (fun c_27 => ?_)
        · have hF := hF.trans (if_pos c_27)
          have hok := Eq.mp (if_pos c_27) hok
          refine lv_aload_n hx hb dX6_readArguments_86 rfl (lv_at hl 0 rfl) ?_
          refine va_get (D := G.1) (ci := 9) (v := .int (0 : Int32)) (C := RX6) (T := TX6) (N := 5) hx hb hts uws_X6 hown hK hP 0 rfl rfl 3 (by decide) (hts _ u_1081) (fun _ h9 => h9) rfl dX6_readArguments_87 ?_
          refine lv_iconst (v := (-1 : Int32)) hx hb dX6_readArguments_90 (by decide) ?_
          refine lv_icmp_eq (tgt := 98) hx hb dX6_readArguments_91 (by decide) (fun c_28 => ?_) (fun c_28 => ?_)
          · exact absurd c_28 (by decide)
          · refine lv_iconst (v := (1 : Int32)) hx hb dX6_readArguments_94 (by decide) ?_
            refine lv_goto (tgt := 99) hx hb dX6_readArguments_95 (by decide) ?_
            exact w_ret (u := ((1 : Int32), (u_24.2.1, u_24.2.2.1, u_24.1, (0 : Int32)))) hx hb hr hlk rfl hS rfl ⟨hF.symm, (by rw [hF]; exact (rfl : narrow .boolean (.int (1 : Int32)) = .int (1 : Int32)))⟩ hP hD (Nat.le_of_ble_eq_true rfl) (Nat.le_of_ble_eq_true rfl) dX6_readArguments_99
        · have hF := hF.trans (if_neg c_27)
          have hok := Eq.mp (if_neg c_27) hok
          refine lv_aload_n hx hb dX6_readArguments_65 rfl (lv_at hl 0 rfl) ?_
          refine lv_aload_n hx hb dX6_readArguments_66 rfl (lv_at hl 0 rfl) ?_
          refine lv_bipush (v := (32 : Int32)) hx hb dX6_readArguments_67 (by decide) ?_
          have k_29 := hok.1
          have hok := hok.2
          refine w_V (own := RX6) (cs := [[(qh0, .inr (9, [.int u_24.2.1, .int u_24.2.2.1, .int u_24.1, .int (0 : Int32), .ref sbh0]))], [(sbh0, .inr (1, [.ref sbh1, .int (0 : Int32), .int sb.2.2.1, .int sb.2.2.2]))], [(sbh1, .inl (G.2.1 2, sb.1, .inl sb.2.1))]]) (rs := []) (As := [.int (32 : Int32)]) (rest := [.ref qh0]) (c_X6_readSign l G qh0 sbh0 sbh1 H.size (u_24.2.1, u_24.2.2.1, u_24.1, (0 : Int32)) sb (32 : Int32) k_29) ⟨hx, hb, hml, hown, hts⟩ g_X6_50 hdv_X6_readSign hK hST hS hP hD hA [0, 1, 2] [] rfl rfl rfl (k0 := 0) rfl rfl rfl ⟨Nat.le_of_ble_eq_true rfl, Nat.le_of_ble_eq_true rfl⟩ ⟨Nat.le_of_ble_eq_true rfl, Nat.le_of_ble_eq_true rfl⟩ rfl hl.1 rfl (Nat.le_of_ble_eq_true rfl) dX6_readArguments_69 (fun u_31 H locs huu hP hD hS => ?_)
          obtain ⟨huu, b_30⟩ := huu
          rw [← huu] at b_30
          have eu_31 := huu
          have hP : va_P G.1 vwCl (fl [[(qh0, .inr (9, [.int u_31.2.1, .int u_31.2.2.1, .int u_31.2.2.2.1, .int u_31.2.2.2.2, .ref sbh0]))], [(sbh0, .inr (1, [.ref sbh1, .int (0 : Int32), .int sb.2.2.1, .int sb.2.2.2]))], [(sbh1, .inl (G.2.1 2, sb.1, .inl sb.2.1))]]) H := hP
          have hD : va_D A (fl [[(qh0, .inr (9, [.int u_31.2.1, .int u_31.2.2.1, .int u_31.2.2.2.1, .int u_31.2.2.2.2, .ref sbh0]))], [(sbh0, .inr (1, [.ref sbh1, .int (0 : Int32), .int sb.2.2.1, .int sb.2.2.2]))], [(sbh1, .inl (G.2.1 2, sb.1, .inl sb.2.1))]]) := hD
          refine W.eq (g2 := F0 m 72 ls [.int u_31.1, .ref qh0]) rfl ?_
          have hF : f_X6_readArguments q sb = (if u_31.1 = (0 : Int32) then ((0 : Int32), (u_31.2.1, u_31.2.2.1, u_31.2.2.2.1, (-1 : Int32))) else (let u_36 : Int32 × PrV := (f_X6_readNumber u_31.2 sb); (if u_36.1 = (-1 : Int32) then ((0 : Int32), (u_36.2.1, u_36.2.2.1, u_36.2.2.2.1, u_36.1)) else ((1 : Int32), (u_36.2.1, u_36.2.2.1, u_36.2.2.2.1, u_36.1))))) := by subst eu_31; exact hF
          have hok : (if u_31.1 = (0 : Int32) then True else (ok_X6_readNumber u_31.2 sb ∧ True)) := by subst eu_31; exact hok
          refine lv_if_eq (tgt := 82) hx hb dX6_readArguments_72 (by decide) (fun c_32 => ?_) (fun c_32 => ?_)
          · have hF := hF.trans (if_pos c_32)
            have hok := Eq.mp (if_pos c_32) hok
            refine lv_iconst (v := (-1 : Int32)) hx hb dX6_readArguments_82 (by decide) ?_
            refine va_put (D := G.1) (ci := 9) (v := .int (-1 : Int32)) (ty := .int) (C := RX6) (T := TX6) (N := 5) hx hb hts uws_X6 tyX6 tyX6_ok nmX6 hown hK hP hD hS 0 rfl rfl 3 (by decide) (hts _ u_1081) (fun _ h9 => h9) rfl (by decide +kernel) rfl rfl (Nat.le_of_ble_eq_true rfl) dX6_readArguments_83 (fun H locs hP hD hS => ?_)
            have hP : va_P G.1 vwCl (fl [[(qh0, .inr (9, [.int u_31.2.1, .int u_31.2.2.1, .int u_31.2.2.2.1, .int (-1 : Int32), .ref sbh0]))], [(sbh0, .inr (1, [.ref sbh1, .int (0 : Int32), .int sb.2.2.1, .int sb.2.2.2]))], [(sbh1, .inl (G.2.1 2, sb.1, .inl sb.2.1))]]) H := hP
            have hD : va_D A (fl [[(qh0, .inr (9, [.int u_31.2.1, .int u_31.2.2.1, .int u_31.2.2.2.1, .int (-1 : Int32), .ref sbh0]))], [(sbh0, .inr (1, [.ref sbh1, .int (0 : Int32), .int sb.2.2.1, .int sb.2.2.2]))], [(sbh1, .inl (G.2.1 2, sb.1, .inl sb.2.1))]]) := hD
            refine lv_aload_n hx hb dX6_readArguments_86 rfl (lv_at hl 0 rfl) ?_
            refine va_get (D := G.1) (ci := 9) (v := .int (-1 : Int32)) (C := RX6) (T := TX6) (N := 5) hx hb hts uws_X6 hown hK hP 0 rfl rfl 3 (by decide) (hts _ u_1081) (fun _ h9 => h9) rfl dX6_readArguments_87 ?_
            refine lv_iconst (v := (-1 : Int32)) hx hb dX6_readArguments_90 (by decide) ?_
            refine lv_icmp_eq (tgt := 98) hx hb dX6_readArguments_91 (by decide) (fun c_33 => ?_) (fun c_33 => ?_)
            · refine lv_iconst (v := (0 : Int32)) hx hb dX6_readArguments_98 (by decide) ?_
              exact w_ret (u := ((0 : Int32), (u_31.2.1, u_31.2.2.1, u_31.2.2.2.1, (-1 : Int32)))) hx hb hr hlk rfl hS rfl ⟨hF.symm, (by rw [hF]; exact (rfl : narrow .boolean (.int (0 : Int32)) = .int (0 : Int32)))⟩ hP hD (Nat.le_of_ble_eq_true rfl) (Nat.le_of_ble_eq_true rfl) dX6_readArguments_99
            · exact absurd c_33 (by decide)
          · have hF := hF.trans (if_neg c_32)
            have hok := Eq.mp (if_neg c_32) hok
            refine lv_aload_n hx hb dX6_readArguments_75 rfl (lv_at hl 0 rfl) ?_
            have k_34 := hok.1
            have hok := hok.2
            refine w_V (own := RX6) (cs := [[(qh0, .inr (9, [.int u_31.2.1, .int u_31.2.2.1, .int u_31.2.2.2.1, .int u_31.2.2.2.2, .ref sbh0]))], [(sbh0, .inr (1, [.ref sbh1, .int (0 : Int32), .int sb.2.2.1, .int sb.2.2.2]))], [(sbh1, .inl (G.2.1 2, sb.1, .inl sb.2.1))]]) (rs := []) (As := []) (rest := [.ref qh0]) (c_X6_readNumber l G qh0 sbh0 sbh1 H.size u_31.2 sb k_34) ⟨hx, hb, hml, hown, hts⟩ g_X6_87 hdv_X6_readNumber hK hST hS hP hD hA [0, 1, 2] [] rfl rfl rfl (k0 := 0) rfl rfl rfl ⟨Nat.le_of_ble_eq_true rfl, Nat.le_of_ble_eq_true rfl⟩ ⟨Nat.le_of_ble_eq_true rfl, Nat.le_of_ble_eq_true rfl⟩ rfl hl.1 rfl (Nat.le_of_ble_eq_true rfl) dX6_readArguments_76 (fun u_36 H locs huu hP hD hS => ?_)
            have eu_36 := huu
            have hP : va_P G.1 vwCl (fl [[(qh0, .inr (9, [.int u_36.2.1, .int u_36.2.2.1, .int u_36.2.2.2.1, .int u_36.2.2.2.2, .ref sbh0]))], [(sbh0, .inr (1, [.ref sbh1, .int (0 : Int32), .int sb.2.2.1, .int sb.2.2.2]))], [(sbh1, .inl (G.2.1 2, sb.1, .inl sb.2.1))]]) H := hP
            have hD : va_D A (fl [[(qh0, .inr (9, [.int u_36.2.1, .int u_36.2.2.1, .int u_36.2.2.2.1, .int u_36.2.2.2.2, .ref sbh0]))], [(sbh0, .inr (1, [.ref sbh1, .int (0 : Int32), .int sb.2.2.1, .int sb.2.2.2]))], [(sbh1, .inl (G.2.1 2, sb.1, .inl sb.2.1))]]) := hD
            refine W.eq (g2 := F0 m 79 ls [.int u_36.1, .ref qh0]) rfl ?_
            have hF : f_X6_readArguments q sb = (if u_36.1 = (-1 : Int32) then ((0 : Int32), (u_36.2.1, u_36.2.2.1, u_36.2.2.2.1, u_36.1)) else ((1 : Int32), (u_36.2.1, u_36.2.2.1, u_36.2.2.2.1, u_36.1))) := by subst eu_36; exact hF
            refine lv_goto (tgt := 83) hx hb dX6_readArguments_79 (by decide) ?_
            refine va_put (D := G.1) (ci := 9) (v := .int u_36.1) (ty := .int) (C := RX6) (T := TX6) (N := 5) hx hb hts uws_X6 tyX6 tyX6_ok nmX6 hown hK hP hD hS 0 rfl rfl 3 (by decide) (hts _ u_1081) (fun _ h9 => h9) rfl (by decide +kernel) rfl rfl (Nat.le_of_ble_eq_true rfl) dX6_readArguments_83 (fun H locs hP hD hS => ?_)
            have hP : va_P G.1 vwCl (fl [[(qh0, .inr (9, [.int u_36.2.1, .int u_36.2.2.1, .int u_36.2.2.2.1, .int u_36.1, .ref sbh0]))], [(sbh0, .inr (1, [.ref sbh1, .int (0 : Int32), .int sb.2.2.1, .int sb.2.2.2]))], [(sbh1, .inl (G.2.1 2, sb.1, .inl sb.2.1))]]) H := hP
            have hD : va_D A (fl [[(qh0, .inr (9, [.int u_36.2.1, .int u_36.2.2.1, .int u_36.2.2.2.1, .int u_36.1, .ref sbh0]))], [(sbh0, .inr (1, [.ref sbh1, .int (0 : Int32), .int sb.2.2.1, .int sb.2.2.2]))], [(sbh1, .inl (G.2.1 2, sb.1, .inl sb.2.1))]]) := hD
            refine lv_aload_n hx hb dX6_readArguments_86 rfl (lv_at hl 0 rfl) ?_
            refine va_get (D := G.1) (ci := 9) (v := .int u_36.1) (C := RX6) (T := TX6) (N := 5) hx hb hts uws_X6 hown hK hP 0 rfl rfl 3 (by decide) (hts _ u_1081) (fun _ h9 => h9) rfl dX6_readArguments_87 ?_
            refine lv_iconst (v := (-1 : Int32)) hx hb dX6_readArguments_90 (by decide) ?_
            refine lv_icmp_eq (tgt := 98) hx hb dX6_readArguments_91 (by decide) (fun c_37 => ?_) (fun c_37 => ?_)
            · have hF := hF.trans (if_pos c_37)
              refine lv_iconst (v := (0 : Int32)) hx hb dX6_readArguments_98 (by decide) ?_
              exact w_ret (u := ((0 : Int32), (u_36.2.1, u_36.2.2.1, u_36.2.2.2.1, u_36.1))) hx hb hr hlk rfl hS rfl ⟨hF.symm, (by rw [hF]; exact (rfl : narrow .boolean (.int (0 : Int32)) = .int (0 : Int32)))⟩ hP hD (Nat.le_of_ble_eq_true rfl) (Nat.le_of_ble_eq_true rfl) dX6_readArguments_99
            · have hF := hF.trans (if_neg c_37)
              refine lv_iconst (v := (1 : Int32)) hx hb dX6_readArguments_94 (by decide) ?_
              refine lv_goto (tgt := 99) hx hb dX6_readArguments_95 (by decide) ?_
              exact w_ret (u := ((1 : Int32), (u_36.2.1, u_36.2.2.1, u_36.2.2.2.1, u_36.1))) hx hb hr hlk rfl hS rfl ⟨hF.symm, (by rw [hF]; exact (rfl : narrow .boolean (.int (1 : Int32)) = .int (1 : Int32)))⟩ hP hD (Nat.le_of_ble_eq_true rfl) (Nat.le_of_ble_eq_true rfl) dX6_readArguments_99
      · have hF := hF.trans (if_neg c_26)
        have hok := Eq.mp (if_neg c_26) hok
        refine lv_aload_n hx hb dX6_readArguments_46 rfl (lv_at hl 0 rfl) ?_
        refine lv_aload_n hx hb dX6_readArguments_47 rfl (lv_at hl 0 rfl) ?_
        have k_38 := hok.1
        have hok := hok.2
        refine w_V (own := RX6) (cs := [[(qh0, .inr (9, [.int u_24.2.1, .int u_24.2.2.1, .int u_24.1, .int (0 : Int32), .ref sbh0]))], [(sbh0, .inr (1, [.ref sbh1, .int (0 : Int32), .int sb.2.2.1, .int sb.2.2.2]))], [(sbh1, .inl (G.2.1 2, sb.1, .inl sb.2.1))]]) (rs := []) (As := []) (rest := [.ref qh0]) (c_X6_readDigit l G qh0 sbh0 sbh1 H.size (u_24.2.1, u_24.2.2.1, u_24.1, (0 : Int32)) sb k_38) ⟨hx, hb, hml, hown, hts⟩ g_X6_84 hdv_X6_readDigit hK hST hS hP hD hA [0, 1, 2] [] rfl rfl rfl (k0 := 0) rfl rfl rfl ⟨Nat.le_of_ble_eq_true rfl, Nat.le_of_ble_eq_true rfl⟩ ⟨Nat.le_of_ble_eq_true rfl, Nat.le_of_ble_eq_true rfl⟩ rfl hl.1 rfl (Nat.le_of_ble_eq_true rfl) dX6_readArguments_48 (fun u_40 H locs huu hP hD hS => ?_)
        have eu_40 := huu
        have hP : va_P G.1 vwCl (fl [[(qh0, .inr (9, [.int u_40.2.1, .int u_40.2.2.1, .int u_40.2.2.2.1, .int u_40.2.2.2.2, .ref sbh0]))], [(sbh0, .inr (1, [.ref sbh1, .int (0 : Int32), .int sb.2.2.1, .int sb.2.2.2]))], [(sbh1, .inl (G.2.1 2, sb.1, .inl sb.2.1))]]) H := hP
        have hD : va_D A (fl [[(qh0, .inr (9, [.int u_40.2.1, .int u_40.2.2.1, .int u_40.2.2.2.1, .int u_40.2.2.2.2, .ref sbh0]))], [(sbh0, .inr (1, [.ref sbh1, .int (0 : Int32), .int sb.2.2.1, .int sb.2.2.2]))], [(sbh1, .inl (G.2.1 2, sb.1, .inl sb.2.1))]]) := hD
        refine W.eq (g2 := F0 m 51 ls [.int u_40.1, .ref qh0]) rfl ?_
        have hF : f_X6_readArguments q sb = (if u_40.1 = (-1 : Int32) then ((0 : Int32), (u_40.2.1, u_40.2.2.1, u_40.2.2.2.1, u_40.1)) else ((1 : Int32), (u_40.2.1, u_40.2.2.1, u_40.2.2.2.1, u_40.1))) := by subst eu_40; exact hF
        refine va_put (D := G.1) (ci := 9) (v := .int u_40.1) (ty := .int) (C := RX6) (T := TX6) (N := 5) hx hb hts uws_X6 tyX6 tyX6_ok nmX6 hown hK hP hD hS 0 rfl rfl 3 (by decide) (hts _ u_1081) (fun _ h9 => h9) rfl (by decide +kernel) rfl rfl (Nat.le_of_ble_eq_true rfl) dX6_readArguments_51 (fun H locs hP hD hS => ?_)
        have hP : va_P G.1 vwCl (fl [[(qh0, .inr (9, [.int u_40.2.1, .int u_40.2.2.1, .int u_40.2.2.2.1, .int u_40.1, .ref sbh0]))], [(sbh0, .inr (1, [.ref sbh1, .int (0 : Int32), .int sb.2.2.1, .int sb.2.2.2]))], [(sbh1, .inl (G.2.1 2, sb.1, .inl sb.2.1))]]) H := hP
        have hD : va_D A (fl [[(qh0, .inr (9, [.int u_40.2.1, .int u_40.2.2.1, .int u_40.2.2.2.1, .int u_40.1, .ref sbh0]))], [(sbh0, .inr (1, [.ref sbh1, .int (0 : Int32), .int sb.2.2.1, .int sb.2.2.2]))], [(sbh1, .inl (G.2.1 2, sb.1, .inl sb.2.1))]]) := hD
        refine lv_goto (tgt := 86) hx hb dX6_readArguments_54 (by decide) ?_
        refine lv_aload_n hx hb dX6_readArguments_86 rfl (lv_at hl 0 rfl) ?_
        refine va_get (D := G.1) (ci := 9) (v := .int u_40.1) (C := RX6) (T := TX6) (N := 5) hx hb hts uws_X6 hown hK hP 0 rfl rfl 3 (by decide) (hts _ u_1081) (fun _ h9 => h9) rfl dX6_readArguments_87 ?_
        refine lv_iconst (v := (-1 : Int32)) hx hb dX6_readArguments_90 (by decide) ?_
        refine lv_icmp_eq (tgt := 98) hx hb dX6_readArguments_91 (by decide) (fun c_41 => ?_) (fun c_41 => ?_)
        · have hF := hF.trans (if_pos c_41)
          refine lv_iconst (v := (0 : Int32)) hx hb dX6_readArguments_98 (by decide) ?_
          exact w_ret (u := ((0 : Int32), (u_40.2.1, u_40.2.2.1, u_40.2.2.2.1, u_40.1))) hx hb hr hlk rfl hS rfl ⟨hF.symm, (by rw [hF]; exact (rfl : narrow .boolean (.int (0 : Int32)) = .int (0 : Int32)))⟩ hP hD (Nat.le_of_ble_eq_true rfl) (Nat.le_of_ble_eq_true rfl) dX6_readArguments_99
        · have hF := hF.trans (if_neg c_41)
          refine lv_iconst (v := (1 : Int32)) hx hb dX6_readArguments_94 (by decide) ?_
          refine lv_goto (tgt := 99) hx hb dX6_readArguments_95 (by decide) ?_
          exact w_ret (u := ((1 : Int32), (u_40.2.1, u_40.2.2.1, u_40.2.2.2.1, u_40.1))) hx hb hr hlk rfl hS rfl ⟨hF.symm, (by rw [hF]; exact (rfl : narrow .boolean (.int (1 : Int32)) = .int (1 : Int32)))⟩ hP hD (Nat.le_of_ble_eq_true rfl) (Nat.le_of_ble_eq_true rfl) dX6_readArguments_99
    · have hF := hF.trans (if_pos c_25)
      have hok := Eq.mp (if_pos c_25) hok
      refine lv_iconst (v := (0 : Int32)) hx hb dX6_readArguments_36 (by decide) ?_
      exact w_ret (u := ((0 : Int32), (u_24.2.1, u_24.2.2.1, u_24.1, (0 : Int32)))) hx hb hr hlk rfl hS rfl ⟨hF.symm, (by rw [hF]; exact (rfl : narrow .boolean (.int (0 : Int32)) = .int (0 : Int32)))⟩ hP hD (Nat.le_of_ble_eq_true rfl) (Nat.le_of_ble_eq_true rfl) dX6_readArguments_37
theorem dX6_readCommand_0 : decode cX6_readCommand 0 = .ok (.aload_n 0, 1) := by decide +kernel
theorem dX6_readCommand_1 : decode cX6_readCommand 1 = .ok (.invokevirtual 54, 3) := by decide +kernel
theorem u_1318 : Cond.methodLink RX6 54 yX6_readVerb ∈ UW := uw 1318 (by decide +kernel) rfl
theorem u_1320 : Cond.instanceMethod yX6_readVerb ∈ UW := uw 1320 (by decide +kernel) rfl
theorem u_9 : Cond.selects RX6 yX6_readVerb yX6_readVerb ∈ UW := uw 9 (by decide +kernel) rfl
theorem u_1321 : Cond.code yX6_readVerb cX6_readVerb 4 (some .boolean) ∈ UW := uw 1321 (by decide +kernel) rfl
theorem g_X6_54 : GoodIn UW (wsV RX6 54 RX6 yX6_readVerb (wsU yX6_readVerb cX6_readVerb 4 (some .boolean))) := gV u_1318 u_1320 u_9 u_28 u_1321
theorem hdv_X6_readVerb : yX6_readVerb.cls = RX6 ∧ yX6_readVerb.cls ≠ "java/lang/invoke/MethodHandle" ∧ yX6_readVerb.cls ≠ "java/lang/invoke/VarHandle" ∧ (parseMethodDescriptor yX6_readVerb.desc).map (fun d => d.parameters.length) = some 0 := by decide +kernel
theorem dX6_readCommand_4 : decode cX6_readCommand 4 = .ok (.ifCond .eq 14, 3) := by decide +kernel
theorem dX6_readCommand_18 : decode cX6_readCommand 18 = .ok (.iconst 0, 1) := by decide +kernel
theorem dX6_readCommand_19 : decode cX6_readCommand 19 = .ok (.ireturn, 1) := by decide +kernel
theorem dX6_readCommand_7 : decode cX6_readCommand 7 = .ok (.aload_n 0, 1) := by decide +kernel
theorem dX6_readCommand_8 : decode cX6_readCommand 8 = .ok (.invokevirtual 57, 3) := by decide +kernel
theorem u_1354 : Cond.methodLink RX6 57 yX6_readArguments ∈ UW := uw 1354 (by decide +kernel) rfl
theorem u_1356 : Cond.instanceMethod yX6_readArguments ∈ UW := uw 1356 (by decide +kernel) rfl
theorem u_12 : Cond.selects RX6 yX6_readArguments yX6_readArguments ∈ UW := uw 12 (by decide +kernel) rfl
theorem u_1357 : Cond.code yX6_readArguments cX6_readArguments 1 (some .boolean) ∈ UW := uw 1357 (by decide +kernel) rfl
theorem g_X6_57 : GoodIn UW (wsV RX6 57 RX6 yX6_readArguments (wsU yX6_readArguments cX6_readArguments 1 (some .boolean))) := gV u_1354 u_1356 u_12 u_28 u_1357
theorem hdv_X6_readArguments : yX6_readArguments.cls = RX6 ∧ yX6_readArguments.cls ≠ "java/lang/invoke/MethodHandle" ∧ yX6_readArguments.cls ≠ "java/lang/invoke/VarHandle" ∧ (parseMethodDescriptor yX6_readArguments.desc).map (fun d => d.parameters.length) = some 0 := by decide +kernel
theorem dX6_readCommand_11 : decode cX6_readCommand 11 = .ok (.ifCond .eq 7, 3) := by decide +kernel
theorem dX6_readCommand_14 : decode cX6_readCommand 14 = .ok (.iconst 1, 1) := by decide +kernel
theorem dX6_readCommand_15 : decode cX6_readCommand 15 = .ok (.goto 4, 3) := by decide +kernel
def f_X6_readCommand (q : PrV) (sb : SbV) : Int32 × PrV := (let u_3 : Int32 × PrV := (f_X6_readVerb q sb); (if u_3.1 = (0 : Int32) then ((0 : Int32), u_3.2) else (let u_7 : Int32 × PrV := (f_X6_readArguments u_3.2 sb); (if u_7.1 = (0 : Int32) then ((0 : Int32), u_7.2) else ((1 : Int32), u_7.2)))))
def ok_X6_readCommand (q : PrV) (sb : SbV) : Prop := (ok_X6_readVerb q sb ∧ (let u_3 : Int32 × PrV := (f_X6_readVerb q sb); (if u_3.1 = (0 : Int32) then True else (ok_X6_readArguments u_3.2 sb ∧ True))))
set_option maxHeartbeats 4000000 in
set_option maxRecDepth 100000 in
theorem c_X6_readCommand (l : Launch) (G : GG) (qh0 : Nat) (sbh0 : Nat) (sbh1 : Nat) (sz : Nat) (q : PrV) (sb : SbV) (hok : ok_X6_readCommand q sb) : wMet l yX6_readCommand cX6_readCommand 1 (some .boolean) 9 0 0 G (fl [[(qh0, .inr (9, [.int q.1, .int q.2.1, .int q.2.2.1, .int q.2.2.2, .ref sbh0]))], [(sbh0, .inr (1, [.ref sbh1, .int (0 : Int32), .int sb.2.2.1, .int sb.2.2.2]))], [(sbh1, .inl (G.2.1 2, sb.1, .inl sb.2.1))]]) [.ref qh0] sz (fun u : Int32 × PrV => some (.int u.1)) (fun u : Int32 × PrV => u = f_X6_readCommand q sb ∧ narrow .boolean (.int ((f_X6_readCommand q sb).1)) = .int ((f_X6_readCommand q sb).1)) (fun u : Int32 × PrV => fl [[(qh0, .inr (9, [.int u.2.1, .int u.2.2.1, .int u.2.2.2.1, .int u.2.2.2.2, .ref sbh0]))], [(sbh0, .inr (1, [.ref sbh1, .int (0 : Int32), .int sb.2.2.1, .int sb.2.2.2]))], [(sbh1, .inl (G.2.1 2, sb.1, .inl sb.2.1))]]) := by
  refine w_start (by decide +kernel) (Nat.le_of_ble_eq_true rfl) ?_
  intro p e s m below meth c A hx hb hr hml hts hown hlk hin hP hD hA hK hST ls hl
  have hS : va_S A s.heap s.heap [] := va_S.rf
  have hown : s.vm.findClass RX6 = some m.cls := hown
  have hl : lv_has ls 1 [(0, .ref qh0)] := hl
  have hF : f_X6_readCommand q sb = (let u_3 : Int32 × PrV := (f_X6_readVerb q sb); (if u_3.1 = (0 : Int32) then ((0 : Int32), u_3.2) else (let u_7 : Int32 × PrV := (f_X6_readArguments u_3.2 sb); (if u_7.1 = (0 : Int32) then ((0 : Int32), u_7.2) else ((1 : Int32), u_7.2))))) := rfl
  have hok : (ok_X6_readVerb q sb ∧ (let u_3 : Int32 × PrV := (f_X6_readVerb q sb); (if u_3.1 = (0 : Int32) then True else (ok_X6_readArguments u_3.2 sb ∧ True)))) := hok
  refine lv_aload_n hx hb dX6_readCommand_0 rfl (lv_at hl 0 rfl) ?_
  have k_1 := hok.1
  have hok := hok.2
  refine w_V (own := RX6) (cs := [[(qh0, .inr (9, [.int q.1, .int q.2.1, .int q.2.2.1, .int q.2.2.2, .ref sbh0]))], [(sbh0, .inr (1, [.ref sbh1, .int (0 : Int32), .int sb.2.2.1, .int sb.2.2.2]))], [(sbh1, .inl (G.2.1 2, sb.1, .inl sb.2.1))]]) (rs := []) (As := []) (rest := []) (c_X6_readVerb l G qh0 sbh0 sbh1 s.heap.size q sb k_1) ⟨hx, hb, hml, hown, hts⟩ g_X6_54 hdv_X6_readVerb hK hST hS hP hD hA [0, 1, 2] [] rfl rfl rfl (k0 := 0) rfl rfl rfl ⟨Nat.le_of_ble_eq_true rfl, Nat.le_of_ble_eq_true rfl⟩ ⟨Nat.le_of_ble_eq_true rfl, Nat.le_of_ble_eq_true rfl⟩ rfl hl.1 rfl (Nat.le_of_ble_eq_true rfl) dX6_readCommand_1 (fun u_3 H locs huu hP hD hS => ?_)
  obtain ⟨huu, b_2⟩ := huu
  rw [← huu] at b_2
  have eu_3 := huu
  have hP : va_P G.1 vwCl (fl [[(qh0, .inr (9, [.int u_3.2.1, .int u_3.2.2.1, .int u_3.2.2.2.1, .int u_3.2.2.2.2, .ref sbh0]))], [(sbh0, .inr (1, [.ref sbh1, .int (0 : Int32), .int sb.2.2.1, .int sb.2.2.2]))], [(sbh1, .inl (G.2.1 2, sb.1, .inl sb.2.1))]]) H := hP
  have hD : va_D A (fl [[(qh0, .inr (9, [.int u_3.2.1, .int u_3.2.2.1, .int u_3.2.2.2.1, .int u_3.2.2.2.2, .ref sbh0]))], [(sbh0, .inr (1, [.ref sbh1, .int (0 : Int32), .int sb.2.2.1, .int sb.2.2.2]))], [(sbh1, .inl (G.2.1 2, sb.1, .inl sb.2.1))]]) := hD
  refine W.eq (g2 := F0 m 4 ls [.int u_3.1]) rfl ?_
  have hF : f_X6_readCommand q sb = (if u_3.1 = (0 : Int32) then ((0 : Int32), u_3.2) else (let u_7 : Int32 × PrV := (f_X6_readArguments u_3.2 sb); (if u_7.1 = (0 : Int32) then ((0 : Int32), u_7.2) else ((1 : Int32), u_7.2)))) := by subst eu_3; exact hF
  have hok : (if u_3.1 = (0 : Int32) then True else (ok_X6_readArguments u_3.2 sb ∧ True)) := by subst eu_3; exact hok
  refine lv_if_eq (tgt := 18) hx hb dX6_readCommand_4 (by decide) (fun c_4 => ?_) (fun c_4 => ?_)
  · have hF := hF.trans (if_pos c_4)
    have hok := Eq.mp (if_pos c_4) hok
    refine lv_iconst (v := (0 : Int32)) hx hb dX6_readCommand_18 (by decide) ?_
    exact w_ret (u := ((0 : Int32), u_3.2)) hx hb hr hlk rfl hS rfl ⟨hF.symm, (by rw [hF]; exact (rfl : narrow .boolean (.int (0 : Int32)) = .int (0 : Int32)))⟩ hP hD (Nat.le_of_ble_eq_true rfl) (Nat.le_of_ble_eq_true rfl) dX6_readCommand_19
  · have hF := hF.trans (if_neg c_4)
    have hok := Eq.mp (if_neg c_4) hok
    refine lv_aload_n hx hb dX6_readCommand_7 rfl (lv_at hl 0 rfl) ?_
    have k_5 := hok.1
    have hok := hok.2
    refine w_V (own := RX6) (cs := [[(qh0, .inr (9, [.int u_3.2.1, .int u_3.2.2.1, .int u_3.2.2.2.1, .int u_3.2.2.2.2, .ref sbh0]))], [(sbh0, .inr (1, [.ref sbh1, .int (0 : Int32), .int sb.2.2.1, .int sb.2.2.2]))], [(sbh1, .inl (G.2.1 2, sb.1, .inl sb.2.1))]]) (rs := []) (As := []) (rest := []) (c_X6_readArguments l G qh0 sbh0 sbh1 H.size u_3.2 sb k_5) ⟨hx, hb, hml, hown, hts⟩ g_X6_57 hdv_X6_readArguments hK hST hS hP hD hA [0, 1, 2] [] rfl rfl rfl (k0 := 0) rfl rfl rfl ⟨Nat.le_of_ble_eq_true rfl, Nat.le_of_ble_eq_true rfl⟩ ⟨Nat.le_of_ble_eq_true rfl, Nat.le_of_ble_eq_true rfl⟩ rfl hl.1 rfl (Nat.le_of_ble_eq_true rfl) dX6_readCommand_8 (fun u_7 H locs huu hP hD hS => ?_)
    obtain ⟨huu, b_6⟩ := huu
    rw [← huu] at b_6
    have eu_7 := huu
    have hP : va_P G.1 vwCl (fl [[(qh0, .inr (9, [.int u_7.2.1, .int u_7.2.2.1, .int u_7.2.2.2.1, .int u_7.2.2.2.2, .ref sbh0]))], [(sbh0, .inr (1, [.ref sbh1, .int (0 : Int32), .int sb.2.2.1, .int sb.2.2.2]))], [(sbh1, .inl (G.2.1 2, sb.1, .inl sb.2.1))]]) H := hP
    have hD : va_D A (fl [[(qh0, .inr (9, [.int u_7.2.1, .int u_7.2.2.1, .int u_7.2.2.2.1, .int u_7.2.2.2.2, .ref sbh0]))], [(sbh0, .inr (1, [.ref sbh1, .int (0 : Int32), .int sb.2.2.1, .int sb.2.2.2]))], [(sbh1, .inl (G.2.1 2, sb.1, .inl sb.2.1))]]) := hD
    refine W.eq (g2 := F0 m 11 ls [.int u_7.1]) rfl ?_
    have hF : f_X6_readCommand q sb = (if u_7.1 = (0 : Int32) then ((0 : Int32), u_7.2) else ((1 : Int32), u_7.2)) := by subst eu_7; exact hF
    refine lv_if_eq (tgt := 18) hx hb dX6_readCommand_11 (by decide) (fun c_8 => ?_) (fun c_8 => ?_)
    · have hF := hF.trans (if_pos c_8)
      refine lv_iconst (v := (0 : Int32)) hx hb dX6_readCommand_18 (by decide) ?_
      exact w_ret (u := ((0 : Int32), u_7.2)) hx hb hr hlk rfl hS rfl ⟨hF.symm, (by rw [hF]; exact (rfl : narrow .boolean (.int (0 : Int32)) = .int (0 : Int32)))⟩ hP hD (Nat.le_of_ble_eq_true rfl) (Nat.le_of_ble_eq_true rfl) dX6_readCommand_19
    · have hF := hF.trans (if_neg c_8)
      refine lv_iconst (v := (1 : Int32)) hx hb dX6_readCommand_14 (by decide) ?_
      refine lv_goto (tgt := 19) hx hb dX6_readCommand_15 (by decide) ?_
      exact w_ret (u := ((1 : Int32), u_7.2)) hx hb hr hlk rfl hS rfl ⟨hF.symm, (by rw [hF]; exact (rfl : narrow .boolean (.int (1 : Int32)) = .int (1 : Int32)))⟩ hP hD (Nat.le_of_ble_eq_true rfl) (Nat.le_of_ble_eq_true rfl) dX6_readCommand_19
theorem dX6_countCommands_0 : decode cX6_countCommands 0 = .ok (.aload_n 0, 1) := by decide +kernel
theorem dX6_countCommands_1 : decode cX6_countCommands 1 = .ok (.invokevirtual 43, 3) := by decide +kernel
theorem u_1310 : Cond.methodLink RX6 43 yX6_rewind ∈ UW := uw 1310 (by decide +kernel) rfl
theorem u_1311 : Cond.instanceMethod yX6_rewind ∈ UW := uw 1311 (by decide +kernel) rfl
theorem u_1312 : Cond.selects RX6 yX6_rewind yX6_rewind ∈ UW := uw 1312 (by decide +kernel) rfl
theorem u_1313 : Cond.code yX6_rewind cX6_rewind 1 none ∈ UW := uw 1313 (by decide +kernel) rfl
theorem g_X6_43 : GoodIn UW (wsV RX6 43 RX6 yX6_rewind (wsU yX6_rewind cX6_rewind 1 none)) := gV u_1310 u_1311 u_1312 u_28 u_1313
theorem hdv_X6_rewind : yX6_rewind.cls = RX6 ∧ yX6_rewind.cls ≠ "java/lang/invoke/MethodHandle" ∧ yX6_rewind.cls ≠ "java/lang/invoke/VarHandle" ∧ (parseMethodDescriptor yX6_rewind.desc).map (fun d => d.parameters.length) = some 0 := by decide +kernel
theorem dX6_countCommands_4 : decode cX6_countCommands 4 = .ok (.iconst 1, 1) := by decide +kernel
theorem dX6_countCommands_5 : decode cX6_countCommands 5 = .ok (.istore_n 1, 1) := by decide +kernel
theorem dX6_countCommands_6 : decode cX6_countCommands 6 = .ok (.iload_n 1, 1) := by decide +kernel
theorem dX6_countCommands_7 : decode cX6_countCommands 7 = .ok (.bipush 60, 2) := by decide +kernel
theorem dX6_countCommands_9 : decode cX6_countCommands 9 = .ok (.if_icmp .gt 45, 3) := by decide +kernel
theorem dX6_countCommands_54 : decode cX6_countCommands 54 = .ok (.iconst (-1), 1) := by decide +kernel
theorem dX6_countCommands_55 : decode cX6_countCommands 55 = .ok (.ireturn, 1) := by decide +kernel
theorem dX6_countCommands_12 : decode cX6_countCommands 12 = .ok (.aload_n 0, 1) := by decide +kernel
theorem dX6_countCommands_13 : decode cX6_countCommands 13 = .ok (.invokevirtual 46, 3) := by decide +kernel
theorem u_1314 : Cond.methodLink RX6 46 yX6_readCommand ∈ UW := uw 1314 (by decide +kernel) rfl
theorem u_1315 : Cond.instanceMethod yX6_readCommand ∈ UW := uw 1315 (by decide +kernel) rfl
theorem u_1316 : Cond.selects RX6 yX6_readCommand yX6_readCommand ∈ UW := uw 1316 (by decide +kernel) rfl
theorem u_1317 : Cond.code yX6_readCommand cX6_readCommand 1 (some .boolean) ∈ UW := uw 1317 (by decide +kernel) rfl
theorem g_X6_46 : GoodIn UW (wsV RX6 46 RX6 yX6_readCommand (wsU yX6_readCommand cX6_readCommand 1 (some .boolean))) := gV u_1314 u_1315 u_1316 u_28 u_1317
theorem hdv_X6_readCommand : yX6_readCommand.cls = RX6 ∧ yX6_readCommand.cls ≠ "java/lang/invoke/MethodHandle" ∧ yX6_readCommand.cls ≠ "java/lang/invoke/VarHandle" ∧ (parseMethodDescriptor yX6_readCommand.desc).map (fun d => d.parameters.length) = some 0 := by decide +kernel
theorem dX6_countCommands_16 : decode cX6_countCommands 16 = .ok (.ifCond .ne 5, 3) := by decide +kernel
theorem dX6_countCommands_21 : decode cX6_countCommands 21 = .ok (.aload_n 0, 1) := by decide +kernel
theorem dX6_countCommands_22 : decode cX6_countCommands 22 = .ok (.getfield 9, 3) := by decide +kernel
theorem dX6_countCommands_25 : decode cX6_countCommands 25 = .ok (.aload_n 0, 1) := by decide +kernel
theorem dX6_countCommands_26 : decode cX6_countCommands 26 = .ok (.getfield 27, 3) := by decide +kernel
theorem dX6_countCommands_29 : decode cX6_countCommands 29 = .ok (.invokevirtual 31, 3) := by decide +kernel
theorem dX6_countCommands_32 : decode cX6_countCommands 32 = .ok (.if_icmp .ne 5, 3) := by decide +kernel
theorem dX6_countCommands_37 : decode cX6_countCommands 37 = .ok (.aload_n 0, 1) := by decide +kernel
theorem dX6_countCommands_38 : decode cX6_countCommands 38 = .ok (.bipush 59, 2) := by decide +kernel
theorem dX6_countCommands_40 : decode cX6_countCommands 40 = .ok (.invokevirtual 50, 3) := by decide +kernel
theorem dX6_countCommands_43 : decode cX6_countCommands 43 = .ok (.ifCond .ne 5, 3) := by decide +kernel
theorem dX6_countCommands_48 : decode cX6_countCommands 48 = .ok (.iinc 1 1, 3) := by decide +kernel
theorem dX6_countCommands_51 : decode cX6_countCommands 51 = .ok (.goto (-45), 3) := by decide +kernel
theorem dX6_countCommands_46 : decode cX6_countCommands 46 = .ok (.iconst (-1), 1) := by decide +kernel
theorem dX6_countCommands_47 : decode cX6_countCommands 47 = .ok (.ireturn, 1) := by decide +kernel
theorem dX6_countCommands_35 : decode cX6_countCommands 35 = .ok (.iload_n 1, 1) := by decide +kernel
theorem dX6_countCommands_36 : decode cX6_countCommands 36 = .ok (.ireturn, 1) := by decide +kernel
theorem dX6_countCommands_19 : decode cX6_countCommands 19 = .ok (.iconst (-1), 1) := by decide +kernel
theorem dX6_countCommands_20 : decode cX6_countCommands 20 = .ok (.ireturn, 1) := by decide +kernel
def lp_X6_countCommands_6 (q : PrV) (sb : SbV) (u_2 : PrV) : Nat → Int32 → PrV → Int32 × PrV
  | 0, _, _ => (0, q)
  | n + 1, x1, qL => (if (60 : Int32) < x1 then ((-1 : Int32), qL) else (let u_6 : Int32 × PrV := (f_X6_readCommand qL sb); (if u_6.1 = (0 : Int32) then ((-1 : Int32), u_6.2) else (if u_6.2.1 = (f_J4_length_8abf5 sb) then (x1, u_6.2) else (let u_12 : Int32 × PrV := (f_X6_readSign u_6.2 sb (59 : Int32)); (if u_12.1 = (0 : Int32) then ((-1 : Int32), u_12.2) else (lp_X6_countCommands_6 q sb u_2 n (x1 + 1) u_12.2)))))))
def okl_lp_X6_countCommands_6 (q : PrV) (sb : SbV) (u_2 : PrV) : Nat → Int32 → PrV → Prop
  | 0, _, _ => False
  | n + 1, x1, qL => (if (60 : Int32) < x1 then True else (ok_X6_readCommand qL sb ∧ (let u_6 : Int32 × PrV := (f_X6_readCommand qL sb); (if u_6.1 = (0 : Int32) then True else (if u_6.2.1 = (f_J4_length_8abf5 sb) then True else (ok_X6_readSign u_6.2 sb (59 : Int32) ∧ (let u_12 : Int32 × PrV := (f_X6_readSign u_6.2 sb (59 : Int32)); (if u_12.1 = (0 : Int32) then True else (okl_lp_X6_countCommands_6 q sb u_2 n (x1 + 1) u_12.2)))))))))
def f_X6_countCommands (q : PrV) (sb : SbV) : Int32 × PrV := (let u_2 : PrV := (f_X6_rewind q sb); (lp_X6_countCommands_6 q sb u_2 61 (1 : Int32) u_2))
def ok_X6_countCommands (q : PrV) (sb : SbV) : Prop := (let u_2 : PrV := (f_X6_rewind q sb); (okl_lp_X6_countCommands_6 q sb u_2 61 (1 : Int32) u_2))
set_option maxHeartbeats 4000000 in
set_option maxRecDepth 100000 in
set_option linter.constructorNameAsVariable false in
theorem c_X6_countCommands (l : Launch) (G : GG) (qh0 : Nat) (sbh0 : Nat) (sbh1 : Nat) (sz : Nat) (q : PrV) (sb : SbV) (hok : ok_X6_countCommands q sb) : wMet l yX6_countCommands cX6_countCommands 2 (some .int) 10 0 0 G (fl [[(qh0, .inr (9, [.int q.1, .int q.2.1, .int q.2.2.1, .int q.2.2.2, .ref sbh0]))], [(sbh0, .inr (1, [.ref sbh1, .int (0 : Int32), .int sb.2.2.1, .int sb.2.2.2]))], [(sbh1, .inl (G.2.1 2, sb.1, .inl sb.2.1))]]) [.ref qh0] sz (fun u : Int32 × PrV => some (.int u.1)) (fun u : Int32 × PrV => u = f_X6_countCommands q sb) (fun u : Int32 × PrV => fl [[(qh0, .inr (9, [.int u.2.1, .int u.2.2.1, .int u.2.2.2.1, .int u.2.2.2.2, .ref sbh0]))], [(sbh0, .inr (1, [.ref sbh1, .int (0 : Int32), .int sb.2.2.1, .int sb.2.2.2]))], [(sbh1, .inl (G.2.1 2, sb.1, .inl sb.2.1))]]) := by
  refine w_start (by decide +kernel) (Nat.le_of_ble_eq_true rfl) ?_
  intro p e s m below meth c A hx hb hr hml hts hown hlk hin hP hD hA hK hST ls hl
  have hS : va_S A s.heap s.heap [] := va_S.rf
  have hown : s.vm.findClass RX6 = some m.cls := hown
  have hl : lv_has ls 2 [(0, .ref qh0)] := hl
  have hF : f_X6_countCommands q sb = (let u_2 : PrV := (f_X6_rewind q sb); (lp_X6_countCommands_6 q sb u_2 61 (1 : Int32) u_2)) := rfl
  have hok : (let u_2 : PrV := (f_X6_rewind q sb); (okl_lp_X6_countCommands_6 q sb u_2 61 (1 : Int32) u_2)) := hok
  refine lv_aload_n hx hb dX6_countCommands_0 rfl (lv_at hl 0 rfl) ?_
  refine w_V (own := RX6) (cs := [[(qh0, .inr (9, [.int q.1, .int q.2.1, .int q.2.2.1, .int q.2.2.2, .ref sbh0]))], [(sbh0, .inr (1, [.ref sbh1, .int (0 : Int32), .int sb.2.2.1, .int sb.2.2.2]))], [(sbh1, .inl (G.2.1 2, sb.1, .inl sb.2.1))]]) (rs := []) (As := []) (rest := []) (c_X6_rewind l G qh0 sbh0 sbh1 s.heap.size q sb) ⟨hx, hb, hml, hown, hts⟩ g_X6_43 hdv_X6_rewind hK hST hS hP hD hA [0, 1, 2] [] rfl rfl rfl (k0 := 0) rfl rfl rfl ⟨Nat.le_of_ble_eq_true rfl, Nat.le_of_ble_eq_true rfl⟩ ⟨Nat.le_of_ble_eq_true rfl, Nat.le_of_ble_eq_true rfl⟩ rfl hl.1 rfl (Nat.le_of_ble_eq_true rfl) dX6_countCommands_1 (fun u_2 H locs huu hP hD hS => ?_)
  have eu_2 := huu
  have hP : va_P G.1 vwCl (fl [[(qh0, .inr (9, [.int u_2.1, .int u_2.2.1, .int u_2.2.2.1, .int u_2.2.2.2, .ref sbh0]))], [(sbh0, .inr (1, [.ref sbh1, .int (0 : Int32), .int sb.2.2.1, .int sb.2.2.2]))], [(sbh1, .inl (G.2.1 2, sb.1, .inl sb.2.1))]]) H := hP
  have hD : va_D A (fl [[(qh0, .inr (9, [.int u_2.1, .int u_2.2.1, .int u_2.2.2.1, .int u_2.2.2.2, .ref sbh0]))], [(sbh0, .inr (1, [.ref sbh1, .int (0 : Int32), .int sb.2.2.1, .int sb.2.2.2]))], [(sbh1, .inl (G.2.1 2, sb.1, .inl sb.2.1))]]) := hD
  refine W.eq (g2 := F0 m 4 ls []) rfl ?_
  have hF : f_X6_countCommands q sb = (lp_X6_countCommands_6 q sb u_2 61 (1 : Int32) u_2) := by subst eu_2; exact hF
  have hok : (okl_lp_X6_countCommands_6 q sb u_2 61 (1 : Int32) u_2) := by subst eu_2; exact hok
  refine lv_iconst (v := (1 : Int32)) hx hb dX6_countCommands_4 (by decide) ?_
  refine lv_istore_n (lv' := [(1, .int (1 : Int32)), (0, .ref qh0)]) hx hb dX6_countCommands_5 rfl hl (by decide) rfl (fun ls hl => ?_)
  have L6 : ∀ (n : Nat) (x1 : Int32) (qL : PrV) (H : Heap) (locs : List Loc) (ls : Array Slot), lv_has ls 2 [(1, .int x1), (0, .ref qh0)] → va_P G.1 vwCl (fl [[(qh0, .inr (9, [.int qL.1, .int qL.2.1, .int qL.2.2.1, .int qL.2.2.2, .ref sbh0]))], [(sbh0, .inr (1, [.ref sbh1, .int (0 : Int32), .int sb.2.2.1, .int sb.2.2.2]))], [(sbh1, .inl (G.2.1 2, sb.1, .inl sb.2.1))]]) H → va_D A (fl [[(qh0, .inr (9, [.int qL.1, .int qL.2.1, .int qL.2.2.1, .int qL.2.2.2, .ref sbh0]))], [(sbh0, .inr (1, [.ref sbh1, .int (0 : Int32), .int sb.2.2.1, .int sb.2.2.2]))], [(sbh1, .inl (G.2.1 2, sb.1, .inl sb.2.1))]]) → va_S A s.heap H locs → (True) → f_X6_countCommands q sb = lp_X6_countCommands_6 q sb u_2 n x1 qL → okl_lp_X6_countCommands_6 q sb u_2 n x1 qL → W p l e (rmd 10 0 0) s m ([.ref qh0] : List Value).toArray below meth c H locs 0 0 (MQ below (wQ (fun u : Int32 × PrV => some (.int u.1)) (fun u : Int32 × PrV => u = f_X6_countCommands q sb) (fun u : Int32 × PrV => fl [[(qh0, .inr (9, [.int u.2.1, .int u.2.2.1, .int u.2.2.2.1, .int u.2.2.2.2, .ref sbh0]))], [(sbh0, .inr (1, [.ref sbh1, .int (0 : Int32), .int sb.2.2.1, .int sb.2.2.2]))], [(sbh1, .inl (G.2.1 2, sb.1, .inl sb.2.1))]]) G.1 A) ([.ref qh0] : List Value).toArray s 0 0 A) (F0 m 6 ls []) := by
    intro n
    induction n with
    | zero => intro x1 qL H locs ls hl _ _ _ hu hF hok; exact hok.elim
    | succ n ih =>
      intro x1 qL H locs ls hl hP hD hS hu hF hok
      have hF : f_X6_countCommands q sb = (if (60 : Int32) < x1 then ((-1 : Int32), qL) else (let u_6 : Int32 × PrV := (f_X6_readCommand qL sb); (if u_6.1 = (0 : Int32) then ((-1 : Int32), u_6.2) else (if u_6.2.1 = (f_J4_length_8abf5 sb) then (x1, u_6.2) else (let u_12 : Int32 × PrV := (f_X6_readSign u_6.2 sb (59 : Int32)); (if u_12.1 = (0 : Int32) then ((-1 : Int32), u_12.2) else (lp_X6_countCommands_6 q sb u_2 n (x1 + 1) u_12.2))))))) := hF
      have hok : (if (60 : Int32) < x1 then True else (ok_X6_readCommand qL sb ∧ (let u_6 : Int32 × PrV := (f_X6_readCommand qL sb); (if u_6.1 = (0 : Int32) then True else (if u_6.2.1 = (f_J4_length_8abf5 sb) then True else (ok_X6_readSign u_6.2 sb (59 : Int32) ∧ (let u_12 : Int32 × PrV := (f_X6_readSign u_6.2 sb (59 : Int32)); (if u_12.1 = (0 : Int32) then True else (okl_lp_X6_countCommands_6 q sb u_2 n (x1 + 1) u_12.2))))))))) := hok
      refine lv_iload_n hx hb dX6_countCommands_6 rfl (lv_at hl 0 rfl) ?_
      refine lv_bipush (v := (60 : Int32)) hx hb dX6_countCommands_7 (by decide) ?_
      refine lv_icmp_gt (tgt := 54) hx hb dX6_countCommands_9 (by decide) (fun c_3 => ?_) (fun c_3 => ?_)
      · have hF := hF.trans (if_pos c_3)
        have hok := Eq.mp (if_pos c_3) hok
        refine lv_iconst (v := (-1 : Int32)) hx hb dX6_countCommands_54 (by decide) ?_
        exact w_ret (u := ((-1 : Int32), qL)) hx hb hr hlk rfl hS rfl hF.symm hP hD (Nat.le_of_ble_eq_true rfl) (Nat.le_of_ble_eq_true rfl) dX6_countCommands_55
      · have hF := hF.trans (if_neg c_3)
        have hok := Eq.mp (if_neg c_3) hok
        refine lv_aload_n hx hb dX6_countCommands_12 rfl (lv_at hl 1 rfl) ?_
        have k_4 := hok.1
        have hok := hok.2
        refine w_V (own := RX6) (cs := [[(qh0, .inr (9, [.int qL.1, .int qL.2.1, .int qL.2.2.1, .int qL.2.2.2, .ref sbh0]))], [(sbh0, .inr (1, [.ref sbh1, .int (0 : Int32), .int sb.2.2.1, .int sb.2.2.2]))], [(sbh1, .inl (G.2.1 2, sb.1, .inl sb.2.1))]]) (rs := []) (As := []) (rest := []) (c_X6_readCommand l G qh0 sbh0 sbh1 H.size qL sb k_4) ⟨hx, hb, hml, hown, hts⟩ g_X6_46 hdv_X6_readCommand hK hST hS hP hD hA [0, 1, 2] [] rfl rfl rfl (k0 := 0) rfl rfl rfl ⟨Nat.le_of_ble_eq_true rfl, Nat.le_of_ble_eq_true rfl⟩ ⟨Nat.le_of_ble_eq_true rfl, Nat.le_of_ble_eq_true rfl⟩ rfl hl.1 rfl (Nat.le_of_ble_eq_true rfl) dX6_countCommands_13 (fun u_6 H locs huu hP hD hS => ?_)
        obtain ⟨huu, b_5⟩ := huu
        rw [← huu] at b_5
        have eu_6 := huu
        have hP : va_P G.1 vwCl (fl [[(qh0, .inr (9, [.int u_6.2.1, .int u_6.2.2.1, .int u_6.2.2.2.1, .int u_6.2.2.2.2, .ref sbh0]))], [(sbh0, .inr (1, [.ref sbh1, .int (0 : Int32), .int sb.2.2.1, .int sb.2.2.2]))], [(sbh1, .inl (G.2.1 2, sb.1, .inl sb.2.1))]]) H := hP
        have hD : va_D A (fl [[(qh0, .inr (9, [.int u_6.2.1, .int u_6.2.2.1, .int u_6.2.2.2.1, .int u_6.2.2.2.2, .ref sbh0]))], [(sbh0, .inr (1, [.ref sbh1, .int (0 : Int32), .int sb.2.2.1, .int sb.2.2.2]))], [(sbh1, .inl (G.2.1 2, sb.1, .inl sb.2.1))]]) := hD
        refine W.eq (g2 := F0 m 16 ls [.int u_6.1]) rfl ?_
        have hF : f_X6_countCommands q sb = (if u_6.1 = (0 : Int32) then ((-1 : Int32), u_6.2) else (if u_6.2.1 = (f_J4_length_8abf5 sb) then (x1, u_6.2) else (let u_12 : Int32 × PrV := (f_X6_readSign u_6.2 sb (59 : Int32)); (if u_12.1 = (0 : Int32) then ((-1 : Int32), u_12.2) else (lp_X6_countCommands_6 q sb u_2 n (x1 + 1) u_12.2))))) := by subst eu_6; exact hF
        have hok : (if u_6.1 = (0 : Int32) then True else (if u_6.2.1 = (f_J4_length_8abf5 sb) then True else (ok_X6_readSign u_6.2 sb (59 : Int32) ∧ (let u_12 : Int32 × PrV := (f_X6_readSign u_6.2 sb (59 : Int32)); (if u_12.1 = (0 : Int32) then True else (okl_lp_X6_countCommands_6 q sb u_2 n (x1 + 1) u_12.2)))))) := by subst eu_6; exact hok
        refine lv_if_ne (tgt := 21) hx hb dX6_countCommands_16 (by decide) (fun c_7 => ?_) (fun c_7 => ?_)
        · have hF := hF.trans (if_neg c_7)
          have hok := Eq.mp (if_neg c_7) hok
          refine lv_aload_n hx hb dX6_countCommands_21 rfl (lv_at hl 1 rfl) ?_
          refine va_get (D := G.1) (ci := 9) (v := .int u_6.2.1) (C := RX6) (T := TX6) (N := 5) hx hb hts uws_X6 hown hK hP 0 rfl rfl 0 (by decide) (hts _ u_1075) (fun _ h9 => h9) rfl dX6_countCommands_22 ?_
          refine lv_aload_n hx hb dX6_countCommands_25 rfl (lv_at hl 1 rfl) ?_
          refine va_get (D := G.1) (ci := 9) (v := .ref sbh0) (C := RX6) (T := TX6) (N := 5) hx hb hts uws_X6 hown hK hP 0 rfl rfl 4 (by decide) (hts _ u_1083) (fun _ h9 => h9) rfl dX6_countCommands_26 ?_
          refine r_V (own := RX6) (v := (some (.int (f_J4_length_8abf5 sb)))) (st1 := [.int (f_J4_length_8abf5 sb), .int u_6.2.1]) (As := []) (rest := [.int u_6.2.1]) (c_J4_length_8abf5 l G sbh0 sbh1 sb) ⟨hx, hb, hml, hown, hts⟩ g_X6_31 hdv_J4_length_8abf5 hK hST hS hP [1, 2] rfl (k0 := 0) rfl rfl rfl ⟨Nat.le_of_ble_eq_true rfl, Nat.le_of_ble_eq_true rfl⟩ ⟨Nat.le_of_ble_eq_true rfl, Nat.le_of_ble_eq_true rfl⟩ rfl hl.1 rfl (Nat.le_of_ble_eq_true rfl) dX6_countCommands_29 rfl (fun b_8 => ?_)
          refine lv_icmp_ne (tgt := 37) hx hb dX6_countCommands_32 (by decide) (fun c_9 => ?_) (fun c_9 => ?_)
          · have hF := hF.trans (if_neg c_9)
            have hok := Eq.mp (if_neg c_9) hok
            refine lv_aload_n hx hb dX6_countCommands_37 rfl (lv_at hl 1 rfl) ?_
            refine lv_bipush (v := (59 : Int32)) hx hb dX6_countCommands_38 (by decide) ?_
            have k_10 := hok.1
            have hok := hok.2
            refine w_V (own := RX6) (cs := [[(qh0, .inr (9, [.int u_6.2.1, .int u_6.2.2.1, .int u_6.2.2.2.1, .int u_6.2.2.2.2, .ref sbh0]))], [(sbh0, .inr (1, [.ref sbh1, .int (0 : Int32), .int sb.2.2.1, .int sb.2.2.2]))], [(sbh1, .inl (G.2.1 2, sb.1, .inl sb.2.1))]]) (rs := []) (As := [.int (59 : Int32)]) (rest := []) (c_X6_readSign l G qh0 sbh0 sbh1 H.size u_6.2 sb (59 : Int32) k_10) ⟨hx, hb, hml, hown, hts⟩ g_X6_50 hdv_X6_readSign hK hST hS hP hD hA [0, 1, 2] [] rfl rfl rfl (k0 := 0) rfl rfl rfl ⟨Nat.le_of_ble_eq_true rfl, Nat.le_of_ble_eq_true rfl⟩ ⟨Nat.le_of_ble_eq_true rfl, Nat.le_of_ble_eq_true rfl⟩ rfl hl.1 rfl (Nat.le_of_ble_eq_true rfl) dX6_countCommands_40 (fun u_12 H locs huu hP hD hS => ?_)
            obtain ⟨huu, b_11⟩ := huu
            rw [← huu] at b_11
            have eu_12 := huu
            have hP : va_P G.1 vwCl (fl [[(qh0, .inr (9, [.int u_12.2.1, .int u_12.2.2.1, .int u_12.2.2.2.1, .int u_12.2.2.2.2, .ref sbh0]))], [(sbh0, .inr (1, [.ref sbh1, .int (0 : Int32), .int sb.2.2.1, .int sb.2.2.2]))], [(sbh1, .inl (G.2.1 2, sb.1, .inl sb.2.1))]]) H := hP
            have hD : va_D A (fl [[(qh0, .inr (9, [.int u_12.2.1, .int u_12.2.2.1, .int u_12.2.2.2.1, .int u_12.2.2.2.2, .ref sbh0]))], [(sbh0, .inr (1, [.ref sbh1, .int (0 : Int32), .int sb.2.2.1, .int sb.2.2.2]))], [(sbh1, .inl (G.2.1 2, sb.1, .inl sb.2.1))]]) := hD
            refine W.eq (g2 := F0 m 43 ls [.int u_12.1]) rfl ?_
            have hF : f_X6_countCommands q sb = (if u_12.1 = (0 : Int32) then ((-1 : Int32), u_12.2) else (lp_X6_countCommands_6 q sb u_2 n (x1 + 1) u_12.2)) := by subst eu_12; exact hF
            have hok : (if u_12.1 = (0 : Int32) then True else (okl_lp_X6_countCommands_6 q sb u_2 n (x1 + 1) u_12.2)) := by subst eu_12; exact hok
            refine lv_if_ne (tgt := 48) hx hb dX6_countCommands_43 (by decide) (fun c_13 => ?_) (fun c_13 => ?_)
            · have hF := hF.trans (if_neg c_13)
              have hok := Eq.mp (if_neg c_13) hok
              refine lv_iinc (v := (x1 + 1)) (lv' := [(1, .int (x1 + 1)), (0, .ref qh0)]) hx hb dX6_countCommands_48 hl (k := 0) rfl rfl (by decide) rfl (fun ls hl => ?_)
              refine lv_goto (tgt := 6) hx hb dX6_countCommands_51 (by decide) ?_
              exact ih (x1 + 1) u_12.2 _ _ ls (lv_sub hl [0, 1] rfl) hP hD hS (trivial) hF hok
            · have hF := hF.trans (if_pos c_13)
              have hok := Eq.mp (if_pos c_13) hok
              refine lv_iconst (v := (-1 : Int32)) hx hb dX6_countCommands_46 (by decide) ?_
              exact w_ret (u := ((-1 : Int32), u_12.2)) hx hb hr hlk rfl hS rfl hF.symm hP hD (Nat.le_of_ble_eq_true rfl) (Nat.le_of_ble_eq_true rfl) dX6_countCommands_47
          · have hF := hF.trans (if_pos c_9)
            have hok := Eq.mp (if_pos c_9) hok
            refine lv_iload_n hx hb dX6_countCommands_35 rfl (lv_at hl 0 rfl) ?_
            exact w_ret (u := (x1, u_6.2)) hx hb hr hlk rfl hS rfl hF.symm hP hD (Nat.le_of_ble_eq_true rfl) (Nat.le_of_ble_eq_true rfl) dX6_countCommands_36
        · have hF := hF.trans (if_pos c_7)
          have hok := Eq.mp (if_pos c_7) hok
          refine lv_iconst (v := (-1 : Int32)) hx hb dX6_countCommands_19 (by decide) ?_
          exact w_ret (u := ((-1 : Int32), u_6.2)) hx hb hr hlk rfl hS rfl hF.symm hP hD (Nat.le_of_ble_eq_true rfl) (Nat.le_of_ble_eq_true rfl) dX6_countCommands_20
  exact L6 61 (1 : Int32) u_2 _ _ ls (lv_sub hl [0, 1] rfl) hP hD hS (trivial) hF hok
