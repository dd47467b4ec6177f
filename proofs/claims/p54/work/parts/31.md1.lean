theorem dX9_throwFor_0 : decode cX9_throwFor 0 = .ok (.aload_n 0, 1) := by decide +kernel
theorem dX9_throwFor_1 : decode cX9_throwFor 1 = .ok (.getstatic 362, 3) := by decide +kernel
theorem u_607 : Cond.fieldLink RX9 362 "MoonlitDoors$Fault" "INDEX" "LMoonlitDoors$Fault;" ∈ UW := uw 607 (by decide +kernel) rfl
theorem dX9_throwFor_4 : decode cX9_throwFor 4 = .ok (.if_acmp .ne 14, 3) := by decide +kernel
theorem dX9_throwFor_18 : decode cX9_throwFor 18 = .ok (.aload_n 0, 1) := by decide +kernel
theorem dX9_throwFor_19 : decode cX9_throwFor 19 = .ok (.getstatic 370, 3) := by decide +kernel
theorem u_609 : Cond.fieldLink RX9 370 "MoonlitDoors$Fault" "ARGUMENT" "LMoonlitDoors$Fault;" ∈ UW := uw 609 (by decide +kernel) rfl
theorem dX9_throwFor_22 : decode cX9_throwFor 22 = .ok (.if_acmp .ne 14, 3) := by decide +kernel
theorem dX9_throwFor_36 : decode cX9_throwFor 36 = .ok (.aload_n 0, 1) := by decide +kernel
theorem dX9_throwFor_37 : decode cX9_throwFor 37 = .ok (.getstatic 373, 3) := by decide +kernel
theorem u_613 : Cond.fieldLink RX9 373 "MoonlitDoors$Fault" "PAST" "LMoonlitDoors$Fault;" ∈ UW := uw 613 (by decide +kernel) rfl
theorem dX9_throwFor_40 : decode cX9_throwFor 40 = .ok (.if_acmp .ne 14, 3) := by decide +kernel
theorem dX9_throwFor_54 : decode cX9_throwFor 54 = .ok (.aload_n 0, 1) := by decide +kernel
theorem dX9_throwFor_55 : decode cX9_throwFor 55 = .ok (.getstatic 381, 3) := by decide +kernel
theorem u_630 : Cond.fieldLink RX9 381 "MoonlitDoors$Fault" "STATE" "LMoonlitDoors$Fault;" ∈ UW := uw 630 (by decide +kernel) rfl
theorem dX9_throwFor_58 : decode cX9_throwFor 58 = .ok (.if_acmp .ne 14, 3) := by decide +kernel
theorem dX9_throwFor_72 : decode cX9_throwFor 72 = .ok (.aload_n 0, 1) := by decide +kernel
theorem dX9_throwFor_73 : decode cX9_throwFor 73 = .ok (.getstatic 386, 3) := by decide +kernel
theorem u_647 : Cond.fieldLink RX9 386 "MoonlitDoors$Fault" "ELEMENT" "LMoonlitDoors$Fault;" ∈ UW := uw 647 (by decide +kernel) rfl
theorem dX9_throwFor_76 : decode cX9_throwFor 76 = .ok (.if_acmp .ne 14, 3) := by decide +kernel
theorem dX9_throwFor_90 : decode cX9_throwFor 90 = .ok (.return_, 1) := by decide +kernel
theorem dX9_throwFor_79 : decode cX9_throwFor 79 = .ok (.new 357, 3) := by decide +kernel
theorem dX9_throwFor_82 : decode cX9_throwFor 82 = .ok (.dup, 1) := by decide +kernel
theorem dX9_throwFor_83 : decode cX9_throwFor 83 = .ok (.ldc_w 389, 3) := by decide +kernel
theorem dX9_throwFor_86 : decode cX9_throwFor 86 = .ok (.invokespecial 361, 3) := by decide +kernel
theorem dX9_throwFor_89 : decode cX9_throwFor 89 = .ok (.athrow, 1) := by decide +kernel
theorem at_X9_361 : ∀ w ∈ nse_at RX9 361 "java/util/NoSuchElementException" "java/lang/RuntimeException" ["java/lang/Exception"], w ∈ lw_tbl ∧ (goodWord w || isCastW w) = true := by decide +kernel
theorem ot_X9_361_357 : ∀ w ∈ Cond.classLink RX9 357 "java/util/NoSuchElementException" :: Cond.initialized "java/util/NoSuchElementException" :: nse_at RX9 361 "java/util/NoSuchElementException" "java/lang/RuntimeException" ["java/lang/Exception"], vx_ot w = true := by decide +kernel
theorem u_649 : Cond.classLink RX9 357 "java/util/NoSuchElementException" ∈ UW := uw 649 (by decide +kernel) rfl
theorem u_42 : Cond.initialized "java/util/NoSuchElementException" ∈ UW := uw 42 (by decide +kernel) rfl
theorem dX9_throwFor_61 : decode cX9_throwFor 61 = .ok (.new 158, 3) := by decide +kernel
theorem dX9_throwFor_64 : decode cX9_throwFor 64 = .ok (.dup, 1) := by decide +kernel
theorem dX9_throwFor_65 : decode cX9_throwFor 65 = .ok (.ldc_w 384, 3) := by decide +kernel
theorem dX9_throwFor_68 : decode cX9_throwFor 68 = .ok (.invokespecial 162, 3) := by decide +kernel
theorem dX9_throwFor_71 : decode cX9_throwFor 71 = .ok (.athrow, 1) := by decide +kernel
theorem at_X9_162 : ∀ w ∈ vx_atS RX9 162 "java/lang/IllegalStateException" ["java/lang/RuntimeException", "java/lang/Exception"], w ∈ lw_tbl ∧ (goodWord w || isCastW w) = true := by decide +kernel
theorem ot_X9_162_158 : ∀ w ∈ Cond.classLink RX9 158 "java/lang/IllegalStateException" :: Cond.initialized "java/lang/IllegalStateException" :: vx_atS RX9 162 "java/lang/IllegalStateException" ["java/lang/RuntimeException", "java/lang/Exception"], vx_ot w = true := by decide +kernel
theorem u_631 : Cond.classLink RX9 158 "java/lang/IllegalStateException" ∈ UW := uw 631 (by decide +kernel) rfl
theorem u_41 : Cond.initialized "java/lang/IllegalStateException" ∈ UW := uw 41 (by decide +kernel) rfl
theorem dX9_throwFor_43 : decode cX9_throwFor 43 = .ok (.new 376, 3) := by decide +kernel
theorem dX9_throwFor_46 : decode cX9_throwFor 46 = .ok (.dup, 1) := by decide +kernel
theorem dX9_throwFor_47 : decode cX9_throwFor 47 = .ok (.ldc_w 378, 3) := by decide +kernel
theorem dX9_throwFor_50 : decode cX9_throwFor 50 = .ok (.invokespecial 380, 3) := by decide +kernel
theorem dX9_throwFor_53 : decode cX9_throwFor 53 = .ok (.athrow, 1) := by decide +kernel
theorem at_X9_380 : ∀ w ∈ vx_atS RX9 380 "java/lang/UnsupportedOperationException" ["java/lang/RuntimeException", "java/lang/Exception"], w ∈ lw_tbl ∧ (goodWord w || isCastW w) = true := by decide +kernel
theorem ot_X9_380_376 : ∀ w ∈ Cond.classLink RX9 376 "java/lang/UnsupportedOperationException" :: Cond.initialized "java/lang/UnsupportedOperationException" :: vx_atS RX9 380 "java/lang/UnsupportedOperationException" ["java/lang/RuntimeException", "java/lang/Exception"], vx_ot w = true := by decide +kernel
theorem u_614 : Cond.classLink RX9 376 "java/lang/UnsupportedOperationException" ∈ UW := uw 614 (by decide +kernel) rfl
theorem u_40 : Cond.initialized "java/lang/UnsupportedOperationException" ∈ UW := uw 40 (by decide +kernel) rfl
theorem dX9_throwFor_25 : decode cX9_throwFor 25 = .ok (.new 316, 3) := by decide +kernel
theorem dX9_throwFor_28 : decode cX9_throwFor 28 = .ok (.dup, 1) := by decide +kernel
theorem dX9_throwFor_29 : decode cX9_throwFor 29 = .ok (.ldc_w 355, 3) := by decide +kernel
theorem dX9_throwFor_32 : decode cX9_throwFor 32 = .ok (.invokespecial 320, 3) := by decide +kernel
theorem dX9_throwFor_35 : decode cX9_throwFor 35 = .ok (.athrow, 1) := by decide +kernel
theorem at_X9_320 : ∀ w ∈ vx_atS RX9 320 "java/lang/IllegalArgumentException" ["java/lang/RuntimeException", "java/lang/Exception"], w ∈ lw_tbl ∧ (goodWord w || isCastW w) = true := by decide +kernel
theorem ot_X9_320_316 : ∀ w ∈ Cond.classLink RX9 316 "java/lang/IllegalArgumentException" :: Cond.initialized "java/lang/IllegalArgumentException" :: vx_atS RX9 320 "java/lang/IllegalArgumentException" ["java/lang/RuntimeException", "java/lang/Exception"], vx_ot w = true := by decide +kernel
theorem u_610 : Cond.classLink RX9 316 "java/lang/IllegalArgumentException" ∈ UW := uw 610 (by decide +kernel) rfl
theorem u_39 : Cond.initialized "java/lang/IllegalArgumentException" ∈ UW := uw 39 (by decide +kernel) rfl
theorem dX9_throwFor_7 : decode cX9_throwFor 7 = .ok (.new 292, 3) := by decide +kernel
theorem dX9_throwFor_10 : decode cX9_throwFor 10 = .ok (.dup, 1) := by decide +kernel
theorem dX9_throwFor_11 : decode cX9_throwFor 11 = .ok (.ldc_w 368, 3) := by decide +kernel
theorem dX9_throwFor_14 : decode cX9_throwFor 14 = .ok (.invokespecial 296, 3) := by decide +kernel
theorem dX9_throwFor_17 : decode cX9_throwFor 17 = .ok (.athrow, 1) := by decide +kernel
theorem at_X9_296 : ∀ w ∈ vx_atS RX9 296 "java/lang/IndexOutOfBoundsException" ["java/lang/RuntimeException", "java/lang/Exception"], w ∈ lw_tbl ∧ (goodWord w || isCastW w) = true := by decide +kernel
theorem ot_X9_296_292 : ∀ w ∈ Cond.classLink RX9 292 "java/lang/IndexOutOfBoundsException" :: Cond.initialized "java/lang/IndexOutOfBoundsException" :: vx_atS RX9 296 "java/lang/IndexOutOfBoundsException" ["java/lang/RuntimeException", "java/lang/Exception"], vx_ot w = true := by decide +kernel
theorem u_79 : Cond.classLink RX9 292 "java/lang/IndexOutOfBoundsException" ∈ UW := uw 79 (by decide +kernel) rfl
theorem u_38 : Cond.initialized "java/lang/IndexOutOfBoundsException" ∈ UW := uw 38 (by decide +kernel) rfl
def f_X9_throwFor (k : Nat) : String := (if k = 1 then "java/lang/IndexOutOfBoundsException" else (if k = 2 then "java/lang/IllegalArgumentException" else (if k = 3 then "java/lang/UnsupportedOperationException" else (if k = 4 then "java/lang/IllegalStateException" else (if k = 5 then "java/util/NoSuchElementException" else "")))))
set_option maxHeartbeats 4000000 in
set_option maxRecDepth 100000 in
theorem c_X9_throwFor (l : Launch) (hlf : l.stackTraces = false) (G : GG)  (k : Nat) (hyp_k : k < 6) : xrMet l yX9_throwFor cX9_throwFor 1 none 8 1 6 G (fl []) [.ref (G.2.2.1 k)] (none) ((f_X9_throwFor k) = "" ∧ True) (fun E => E = (f_X9_throwFor k) ∧ E ≠ "") := by
  refine xr_start (by decide +kernel) (Nat.le_of_ble_eq_true rfl) ?_
  intro p e s m below meth c hx hb hr hml hts hown hlk hxt hP hK hST ls hl
  have hS : va_S (fun _ => False) s.heap s.heap [] := va_S.rf
  have hown : s.vm.findClass RX9 = some m.cls := hown
  have hl : lv_has ls 1 [(0, .ref (G.2.2.1 k))] := hl
  have hF : f_X9_throwFor k = (if k = 1 then "java/lang/IndexOutOfBoundsException" else (if k = 2 then "java/lang/IllegalArgumentException" else (if k = 3 then "java/lang/UnsupportedOperationException" else (if k = 4 then "java/lang/IllegalStateException" else (if k = 5 then "java/util/NoSuchElementException" else ""))))) := rfl
  refine lv_aload_n hx hb dX9_throwFor_0 rfl (lv_at hl 0 rfl) ?_
  refine va_gets (C := RX3) (n := "INDEX") (d := "LMoonlitDoors$Fault;") hx hb (hST.1 1 (by decide)) hS hown (hts _ u_607) (fun _ h9 => h9) dX9_throwFor_1 ?_
  refine lv_acmp_ne (rx := some (G.2.2.1 k)) (ry := some (G.2.2.1 1)) (tgt := 18) hx hb dX9_throwFor_4 (by decide) (fun c_1 => ?_) (fun c_1 => ?_)
  · have c_1 : ¬ (k = 1) := fun e => c_1 (by rw [e])
    have hF := hF.trans (if_neg c_1)
    refine lv_aload_n hx hb dX9_throwFor_18 rfl (lv_at hl 0 rfl) ?_
    refine va_gets (C := RX3) (n := "ARGUMENT") (d := "LMoonlitDoors$Fault;") hx hb (hST.1 2 (by decide)) hS hown (hts _ u_609) (fun _ h9 => h9) dX9_throwFor_19 ?_
    refine lv_acmp_ne (rx := some (G.2.2.1 k)) (ry := some (G.2.2.1 2)) (tgt := 36) hx hb dX9_throwFor_22 (by decide) (fun c_2 => ?_) (fun c_2 => ?_)
    · have c_2 : ¬ (k = 2) := fun e => c_2 (by rw [e])
      have hF := hF.trans (if_neg c_2)
      refine lv_aload_n hx hb dX9_throwFor_36 rfl (lv_at hl 0 rfl) ?_
      refine va_gets (C := RX3) (n := "PAST") (d := "LMoonlitDoors$Fault;") hx hb (hST.1 3 (by decide)) hS hown (hts _ u_613) (fun _ h9 => h9) dX9_throwFor_37 ?_
      refine lv_acmp_ne (rx := some (G.2.2.1 k)) (ry := some (G.2.2.1 3)) (tgt := 54) hx hb dX9_throwFor_40 (by decide) (fun c_3 => ?_) (fun c_3 => ?_)
      · have c_3 : ¬ (k = 3) := fun e => c_3 (by rw [e])
        have hF := hF.trans (if_neg c_3)
        refine lv_aload_n hx hb dX9_throwFor_54 rfl (lv_at hl 0 rfl) ?_
        refine va_gets (C := RX3) (n := "STATE") (d := "LMoonlitDoors$Fault;") hx hb (hST.1 4 (by decide)) hS hown (hts _ u_630) (fun _ h9 => h9) dX9_throwFor_55 ?_
        refine lv_acmp_ne (rx := some (G.2.2.1 k)) (ry := some (G.2.2.1 4)) (tgt := 72) hx hb dX9_throwFor_58 (by decide) (fun c_4 => ?_) (fun c_4 => ?_)
        · have c_4 : ¬ (k = 4) := fun e => c_4 (by rw [e])
          have hF := hF.trans (if_neg c_4)
          refine lv_aload_n hx hb dX9_throwFor_72 rfl (lv_at hl 0 rfl) ?_
          refine va_gets (C := RX3) (n := "ELEMENT") (d := "LMoonlitDoors$Fault;") hx hb (hST.1 5 (by decide)) hS hown (hts _ u_647) (fun _ h9 => h9) dX9_throwFor_73 ?_
          refine lv_acmp_ne (rx := some (G.2.2.1 k)) (ry := some (G.2.2.1 5)) (tgt := 90) hx hb dX9_throwFor_76 (by decide) (fun c_5 => ?_) (fun c_5 => ?_)
          · have c_5 : ¬ (k = 5) := fun e => c_5 (by rw [e])
            have hF := hF.trans (if_neg c_5)
            exact x_retV hx hb hr hlk ⟨hF, trivial⟩ (Nat.le_of_ble_eq_true rfl) (Nat.le_of_ble_eq_true rfl) dX9_throwFor_90
          · have c_5 : k = 5 := hST.2.1 _ _ hyp_k (by decide) (Option.some.inj c_5)
            have hF := hF.trans (if_pos c_5)
            exact xr_throwNW (A := (fun _ => False)) (own := RX9) (cls := "java/util/NoSuchElementException") (text := "not there") (j := 30) hlf ⟨hx, hb, hml, hown, hts⟩ hST hlk hxt (by decide +kernel) u_649 u_42 (by decide +kernel) at_X9_361 ot_X9_361_357 hl.1 dX9_throwFor_79 dX9_throwFor_82 dX9_throwFor_83 dX9_throwFor_86 dX9_throwFor_89 ⟨Nat.le_of_ble_eq_true rfl, Nat.le_of_ble_eq_true rfl⟩ ⟨Nat.le_of_ble_eq_true rfl, Nat.le_of_ble_eq_true rfl⟩ ⟨(hF).symm, by decide⟩ (Nat.le_of_ble_eq_true rfl) (Nat.le_of_ble_eq_true rfl)
        · have c_4 : k = 4 := hST.2.1 _ _ hyp_k (by decide) (Option.some.inj c_4)
          have hF := hF.trans (if_pos c_4)
          exact xr_throwSW (A := (fun _ => False)) (own := RX9) (cls := "java/lang/IllegalStateException") (text := "there already, or no room") (j := 29) hlf ⟨hx, hb, hml, hown, hts⟩ hST hlk hxt (by decide +kernel) u_631 u_41 (by decide +kernel) at_X9_162 ot_X9_162_158 hl.1 dX9_throwFor_61 dX9_throwFor_64 dX9_throwFor_65 dX9_throwFor_68 dX9_throwFor_71 ⟨Nat.le_of_ble_eq_true rfl, Nat.le_of_ble_eq_true rfl⟩ ⟨Nat.le_of_ble_eq_true rfl, Nat.le_of_ble_eq_true rfl⟩ ⟨(hF).symm, by decide⟩ (Nat.le_of_ble_eq_true rfl) (Nat.le_of_ble_eq_true rfl)
      · have c_3 : k = 3 := hST.2.1 _ _ hyp_k (by decide) (Option.some.inj c_3)
        have hF := hF.trans (if_pos c_3)
        exact xr_throwSW (A := (fun _ => False)) (own := RX9) (cls := "java/lang/UnsupportedOperationException") (text := "the day has passed") (j := 28) hlf ⟨hx, hb, hml, hown, hts⟩ hST hlk hxt (by decide +kernel) u_614 u_40 (by decide +kernel) at_X9_380 ot_X9_380_376 hl.1 dX9_throwFor_43 dX9_throwFor_46 dX9_throwFor_47 dX9_throwFor_50 dX9_throwFor_53 ⟨Nat.le_of_ble_eq_true rfl, Nat.le_of_ble_eq_true rfl⟩ ⟨Nat.le_of_ble_eq_true rfl, Nat.le_of_ble_eq_true rfl⟩ ⟨(hF).symm, by decide⟩ (Nat.le_of_ble_eq_true rfl) (Nat.le_of_ble_eq_true rfl)
    · have c_2 : k = 2 := hST.2.1 _ _ hyp_k (by decide) (Option.some.inj c_2)
      have hF := hF.trans (if_pos c_2)
      exact xr_throwSW (A := (fun _ => False)) (own := RX9) (cls := "java/lang/IllegalArgumentException") (text := "out of range") (j := 27) hlf ⟨hx, hb, hml, hown, hts⟩ hST hlk hxt (by decide +kernel) u_610 u_39 (by decide +kernel) at_X9_320 ot_X9_320_316 hl.1 dX9_throwFor_25 dX9_throwFor_28 dX9_throwFor_29 dX9_throwFor_32 dX9_throwFor_35 ⟨Nat.le_of_ble_eq_true rfl, Nat.le_of_ble_eq_true rfl⟩ ⟨Nat.le_of_ble_eq_true rfl, Nat.le_of_ble_eq_true rfl⟩ ⟨(hF).symm, by decide⟩ (Nat.le_of_ble_eq_true rfl) (Nat.le_of_ble_eq_true rfl)
  · have c_1 : k = 1 := hST.2.1 _ _ hyp_k (by decide) (Option.some.inj c_1)
    have hF := hF.trans (if_pos c_1)
    exact xr_throwSW (A := (fun _ => False)) (own := RX9) (cls := "java/lang/IndexOutOfBoundsException") (text := "no such door or person") (j := 26) hlf ⟨hx, hb, hml, hown, hts⟩ hST hlk hxt (by decide +kernel) u_79 u_38 (by decide +kernel) at_X9_296 ot_X9_296_292 hl.1 dX9_throwFor_7 dX9_throwFor_10 dX9_throwFor_11 dX9_throwFor_14 dX9_throwFor_17 ⟨Nat.le_of_ble_eq_true rfl, Nat.le_of_ble_eq_true rfl⟩ ⟨Nat.le_of_ble_eq_true rfl, Nat.le_of_ble_eq_true rfl⟩ ⟨(hF).symm, by decide⟩ (Nat.le_of_ble_eq_true rfl) (Nat.le_of_ble_eq_true rfl)
theorem dX9_requireRange_0 : decode cX9_requireRange 0 = .ok (.iload_n 0, 1) := by decide +kernel
theorem dX9_requireRange_1 : decode cX9_requireRange 1 = .ok (.iload_n 1, 1) := by decide +kernel
theorem dX9_requireRange_2 : decode cX9_requireRange 2 = .ok (.if_icmp .lt 8, 3) := by decide +kernel
theorem dX9_requireRange_10 : decode cX9_requireRange 10 = .ok (.new 316, 3) := by decide +kernel
theorem dX9_requireRange_13 : decode cX9_requireRange 13 = .ok (.dup, 1) := by decide +kernel
theorem dX9_requireRange_14 : decode cX9_requireRange 14 = .ok (.ldc_w 355, 3) := by decide +kernel
theorem dX9_requireRange_17 : decode cX9_requireRange 17 = .ok (.invokespecial 320, 3) := by decide +kernel
theorem dX9_requireRange_20 : decode cX9_requireRange 20 = .ok (.athrow, 1) := by decide +kernel
theorem dX9_requireRange_5 : decode cX9_requireRange 5 = .ok (.iload_n 0, 1) := by decide +kernel
theorem dX9_requireRange_6 : decode cX9_requireRange 6 = .ok (.iload_n 2, 1) := by decide +kernel
theorem dX9_requireRange_7 : decode cX9_requireRange 7 = .ok (.if_icmp .le 14, 3) := by decide +kernel
theorem dX9_requireRange_21 : decode cX9_requireRange 21 = .ok (.return_, 1) := by decide +kernel
def f_X9_requireRange (x : Int32) (lo : Int32) (hi : Int32) : String := (if x < lo then "java/lang/IllegalArgumentException" else (if x ≤ hi then "" else "java/lang/IllegalArgumentException"))
set_option maxHeartbeats 4000000 in
set_option maxRecDepth 100000 in
theorem c_X9_requireRange (l : Launch) (hlf : l.stackTraces = false) (G : GG)  (x : Int32) (lo : Int32) (hi : Int32) : xrMet l yX9_requireRange cX9_requireRange 3 none 8 1 6 G (fl []) [.int x, .int lo, .int hi] (none) ((f_X9_requireRange x lo hi) = "" ∧ True) (fun E => E = (f_X9_requireRange x lo hi) ∧ E ≠ "") := by
  refine xr_start (by decide +kernel) (Nat.le_of_ble_eq_true rfl) ?_
  intro p e s m below meth c hx hb hr hml hts hown hlk hxt hP hK hST ls hl
  have hS : va_S (fun _ => False) s.heap s.heap [] := va_S.rf
  have hown : s.vm.findClass RX9 = some m.cls := hown
  have hl : lv_has ls 3 [(0, .int x), (1, .int lo), (2, .int hi)] := hl
  have hF : f_X9_requireRange x lo hi = (if x < lo then "java/lang/IllegalArgumentException" else (if x ≤ hi then "" else "java/lang/IllegalArgumentException")) := rfl
  refine lv_iload_n hx hb dX9_requireRange_0 rfl (lv_at hl 0 rfl) ?_
  refine lv_iload_n hx hb dX9_requireRange_1 rfl (lv_at hl 1 rfl) ?_
  refine lv_icmp_lt (tgt := 10) hx hb dX9_requireRange_2 (by decide) (fun c_1 => ?_) (fun c_1 => ?_)
  · have hF := hF.trans (if_pos c_1)
    exact xr_throwSW (A := (fun _ => False)) (own := RX9) (cls := "java/lang/IllegalArgumentException") (text := "out of range") (j := 27) hlf ⟨hx, hb, hml, hown, hts⟩ hST hlk hxt (by decide +kernel) u_610 u_39 (by decide +kernel) at_X9_320 ot_X9_320_316 hl.1 dX9_requireRange_10 dX9_requireRange_13 dX9_requireRange_14 dX9_requireRange_17 dX9_requireRange_20 ⟨Nat.le_of_ble_eq_true rfl, Nat.le_of_ble_eq_true rfl⟩ ⟨Nat.le_of_ble_eq_true rfl, Nat.le_of_ble_eq_true rfl⟩ ⟨(hF).symm, by decide⟩ (Nat.le_of_ble_eq_true rfl) (Nat.le_of_ble_eq_true rfl)
  · have hF := hF.trans (if_neg c_1)
    refine lv_iload_n hx hb dX9_requireRange_5 rfl (lv_at hl 0 rfl) ?_
    refine lv_iload_n hx hb dX9_requireRange_6 rfl (lv_at hl 2 rfl) ?_
    refine lv_icmp_le (tgt := 21) hx hb dX9_requireRange_7 (by decide) (fun c_2 => ?_) (fun c_2 => ?_)
    · have hF := hF.trans (if_pos c_2)
      exact x_retV hx hb hr hlk ⟨hF, trivial⟩ (Nat.le_of_ble_eq_true rfl) (Nat.le_of_ble_eq_true rfl) dX9_requireRange_21
    · have hF := hF.trans (if_neg c_2)
      exact xr_throwSW (A := (fun _ => False)) (own := RX9) (cls := "java/lang/IllegalArgumentException") (text := "out of range") (j := 27) hlf ⟨hx, hb, hml, hown, hts⟩ hST hlk hxt (by decide +kernel) u_610 u_39 (by decide +kernel) at_X9_320 ot_X9_320_316 hl.1 dX9_requireRange_10 dX9_requireRange_13 dX9_requireRange_14 dX9_requireRange_17 dX9_requireRange_20 ⟨Nat.le_of_ble_eq_true rfl, Nat.le_of_ble_eq_true rfl⟩ ⟨Nat.le_of_ble_eq_true rfl, Nat.le_of_ble_eq_true rfl⟩ ⟨(hF).symm, by decide⟩ (Nat.le_of_ble_eq_true rfl) (Nat.le_of_ble_eq_true rfl)
theorem dX9_requireElement_0 : decode cX9_requireElement 0 = .ok (.iload_n 0, 1) := by decide +kernel
theorem dX9_requireElement_1 : decode cX9_requireElement 1 = .ok (.ifCond .ne 14, 3) := by decide +kernel
theorem dX9_requireElement_15 : decode cX9_requireElement 15 = .ok (.return_, 1) := by decide +kernel
theorem dX9_requireElement_4 : decode cX9_requireElement 4 = .ok (.new 357, 3) := by decide +kernel
theorem dX9_requireElement_7 : decode cX9_requireElement 7 = .ok (.dup, 1) := by decide +kernel
theorem dX9_requireElement_8 : decode cX9_requireElement 8 = .ok (.ldc_w 359, 3) := by decide +kernel
theorem dX9_requireElement_11 : decode cX9_requireElement 11 = .ok (.invokespecial 361, 3) := by decide +kernel
theorem dX9_requireElement_14 : decode cX9_requireElement 14 = .ok (.athrow, 1) := by decide +kernel
def f_X9_requireElement (is : Int32) : String := (if is = (0 : Int32) then "java/util/NoSuchElementException" else "")
set_option maxHeartbeats 4000000 in
set_option maxRecDepth 100000 in
theorem c_X9_requireElement (l : Launch) (hlf : l.stackTraces = false) (G : GG)  (is : Int32) : xrMet l yX9_requireElement cX9_requireElement 1 none 8 1 6 G (fl []) [.int is] (none) ((f_X9_requireElement is) = "" ∧ True) (fun E => E = (f_X9_requireElement is) ∧ E ≠ "") := by
  refine xr_start (by decide +kernel) (Nat.le_of_ble_eq_true rfl) ?_
  intro p e s m below meth c hx hb hr hml hts hown hlk hxt hP hK hST ls hl
  have hS : va_S (fun _ => False) s.heap s.heap [] := va_S.rf
  have hown : s.vm.findClass RX9 = some m.cls := hown
  have hl : lv_has ls 1 [(0, .int is)] := hl
  have hF : f_X9_requireElement is = (if is = (0 : Int32) then "java/util/NoSuchElementException" else "") := rfl
  refine lv_iload_n hx hb dX9_requireElement_0 rfl (lv_at hl 0 rfl) ?_
  refine lv_if_ne (tgt := 15) hx hb dX9_requireElement_1 (by decide) (fun c_1 => ?_) (fun c_1 => ?_)
  · have hF := hF.trans (if_neg c_1)
    exact x_retV hx hb hr hlk ⟨hF, trivial⟩ (Nat.le_of_ble_eq_true rfl) (Nat.le_of_ble_eq_true rfl) dX9_requireElement_15
  · have hF := hF.trans (if_pos c_1)
    exact xr_throwNW (A := (fun _ => False)) (own := RX9) (cls := "java/util/NoSuchElementException") (text := "no such element") (j := 32) hlf ⟨hx, hb, hml, hown, hts⟩ hST hlk hxt (by decide +kernel) u_649 u_42 (by decide +kernel) at_X9_361 ot_X9_361_357 hl.1 dX9_requireElement_4 dX9_requireElement_7 dX9_requireElement_8 dX9_requireElement_11 dX9_requireElement_14 ⟨Nat.le_of_ble_eq_true rfl, Nat.le_of_ble_eq_true rfl⟩ ⟨Nat.le_of_ble_eq_true rfl, Nat.le_of_ble_eq_true rfl⟩ ⟨(hF).symm, by decide⟩ (Nat.le_of_ble_eq_true rfl) (Nat.le_of_ble_eq_true rfl)
theorem dX9_requireDoor_0 : decode cX9_requireDoor 0 = .ok (.aload_n 0, 1) := by decide +kernel
theorem dX9_requireDoor_1 : decode cX9_requireDoor 1 = .ok (.getfield 10, 3) := by decide +kernel
theorem uws_X9 : ∀ w ∈ wsX90, w ∈ UW := uw_all [1105, 1107, 1109, 1111, 1113, 1115, 1117, 1119] (by decide +kernel) (by decide +kernel)
theorem u_1097 : Cond.fieldLink RX9 10 "MoonlitDoors" "state" "LMoonlitDoors$State;" ∈ UW := uw 1097 (by decide +kernel) rfl
theorem dX9_requireDoor_4 : decode cX9_requireDoor 4 = .ok (.getfield 63, 3) := by decide +kernel
theorem u_1028 : Cond.fieldLink RX9 63 "MoonlitDoors$State" "doors" "LMoonlitDoors$Doors;" ∈ UW := uw 1028 (by decide +kernel) rfl
theorem dX9_requireDoor_7 : decode cX9_requireDoor 7 = .ok (.iload_n 1, 1) := by decide +kernel
theorem dX9_requireDoor_8 : decode cX9_requireDoor 8 = .ok (.invokevirtual 349, 3) := by decide +kernel
theorem u_75 : Cond.methodLink RX9 349 yX2_holds ∈ UW := uw 75 (by decide +kernel) rfl
theorem g_X9_349 : GoodIn UW (wsV RX9 349 RX2 yX2_holds (wsU yX2_holds cX2_holds 2 (some .boolean))) := gV u_75 u_76 u_77 u_23 u_78
theorem dX9_requireDoor_11 : decode cX9_requireDoor 11 = .ok (.ifCond .ne 14, 3) := by decide +kernel
theorem dX9_requireDoor_25 : decode cX9_requireDoor 25 = .ok (.return_, 1) := by decide +kernel
theorem dX9_requireDoor_14 : decode cX9_requireDoor 14 = .ok (.new 292, 3) := by decide +kernel
theorem dX9_requireDoor_17 : decode cX9_requireDoor 17 = .ok (.dup, 1) := by decide +kernel
theorem dX9_requireDoor_18 : decode cX9_requireDoor 18 = .ok (.ldc_w 350, 3) := by decide +kernel
theorem dX9_requireDoor_21 : decode cX9_requireDoor 21 = .ok (.invokespecial 296, 3) := by decide +kernel
theorem dX9_requireDoor_24 : decode cX9_requireDoor 24 = .ok (.athrow, 1) := by decide +kernel
def f_X9_requireDoor (q : McV) (v : StV) (dr : Int32) : String := (if (f_X2_holds v.2.2.1 dr) = (0 : Int32) then "java/lang/IndexOutOfBoundsException" else "")
set_option maxHeartbeats 4000000 in
set_option maxRecDepth 100000 in
theorem c_X9_requireDoor (l : Launch) (hlf : l.stackTraces = false) (G : GG) (qh0 : Nat) (q_snapshot : Nat) (q_history : Nat) (q_program : Nat) (q_notice : Nat) (va : Nat → Nat) (q : McV) (v : StV) (dr : Int32) : xrMet l yX9_requireDoor cX9_requireDoor 2 none 8 1 6 G (fl [[(qh0, .inr (11, [.ref (va 0), .ref q_snapshot, .int q.1, .ref q_history, .ref q_program, .ref q_notice, .int q.2.1, .int q.2.2]))], [((va 0), .inr (10, [.int v.1, .int v.2.1, .ref (va 1), .ref (va 6), .ref (va 10), .ref (va 13)]))], wDo G (va 1) (va 2) (va 3) (va 4) (va 5) v.2.2.1, wEx G (va 6) (va 7) (va 8) (va 9) v.2.2.2.1, wPe G (va 10) (va 11) (va 12) v.2.2.2.2.1, wAu G (va 13) (va 14) (va 15) (va 16) (va 17) (va 18) (va 19) v.2.2.2.2.2]) [.ref qh0, .int dr] (none) ((f_X9_requireDoor q v dr) = "" ∧ True) (fun E => E = (f_X9_requireDoor q v dr) ∧ E ≠ "") := by
  refine xr_start (by decide +kernel) (Nat.le_of_ble_eq_true rfl) ?_
  intro p e s m below meth c hx hb hr hml hts hown hlk hxt hP hK hST ls hl
  have hS : va_S (fun _ => False) s.heap s.heap [] := va_S.rf
  have hown : s.vm.findClass RX9 = some m.cls := hown
  have hl : lv_has ls 2 [(0, .ref qh0), (1, .int dr)] := hl
  have hF : f_X9_requireDoor q v dr = (if (f_X2_holds v.2.2.1 dr) = (0 : Int32) then "java/lang/IndexOutOfBoundsException" else "") := rfl
  refine lv_aload_n hx hb dX9_requireDoor_0 rfl (lv_at hl 0 rfl) ?_
  refine va_get (D := G.1) (ci := 11) (v := .ref (va 0)) (C := RX9) (T := TX9) (N := 8) hx hb hts uws_X9 hown hK hP 0 rfl rfl 0 (by decide) (hts _ u_1097) (fun _ h9 => h9) rfl dX9_requireDoor_1 ?_
  refine va_get (D := G.1) (ci := 10) (v := .ref (va 1)) (C := RX8) (T := TX8) (N := 6) hx hb hts uws_X8 hown hK hP 1 rfl rfl 2 (by decide) (hts _ u_1028) (fun _ h9 => h9) rfl dX9_requireDoor_4 ?_
  refine lv_iload_n hx hb dX9_requireDoor_7 rfl (lv_at hl 1 rfl) ?_
  refine r_V (own := RX9) (v := (some (.int (f_X2_holds v.2.2.1 dr)))) (st1 := [.int (f_X2_holds v.2.2.1 dr)]) (As := [.int dr]) (rest := []) (c_X2_holds l G (va 1) (va 2) (va 3) (va 4) (va 5) v.2.2.1 dr) ⟨hx, hb, hml, hown, hts⟩ g_X9_349 hdv_X2_holds hK hST hS hP [2, 3, 4, 5, 6] rfl (k0 := 0) rfl rfl rfl ⟨Nat.le_of_ble_eq_true rfl, Nat.le_of_ble_eq_true rfl⟩ ⟨Nat.le_of_ble_eq_true rfl, Nat.le_of_ble_eq_true rfl⟩ rfl hl.1 rfl (Nat.le_of_ble_eq_true rfl) dX9_requireDoor_8 rfl (fun b_1 => ?_)
  refine lv_if_ne (tgt := 25) hx hb dX9_requireDoor_11 (by decide) (fun c_2 => ?_) (fun c_2 => ?_)
  · have hF := hF.trans (if_neg c_2)
    exact x_retV hx hb hr hlk ⟨hF, trivial⟩ (Nat.le_of_ble_eq_true rfl) (Nat.le_of_ble_eq_true rfl) dX9_requireDoor_25
  · have hF := hF.trans (if_pos c_2)
    exact xr_throwSW (A := (fun _ => False)) (own := RX9) (cls := "java/lang/IndexOutOfBoundsException") (text := "no such door") (j := 31) hlf ⟨hx, hb, hml, hown, hts⟩ hST hlk hxt (by decide +kernel) u_79 u_38 (by decide +kernel) at_X9_296 ot_X9_296_292 hl.1 dX9_requireDoor_14 dX9_requireDoor_17 dX9_requireDoor_18 dX9_requireDoor_21 dX9_requireDoor_24 ⟨Nat.le_of_ble_eq_true rfl, Nat.le_of_ble_eq_true rfl⟩ ⟨Nat.le_of_ble_eq_true rfl, Nat.le_of_ble_eq_true rfl⟩ ⟨(hF).symm, by decide⟩ (Nat.le_of_ble_eq_true rfl) (Nat.le_of_ble_eq_true rfl)
theorem dX9_requirePerson_0 : decode cX9_requirePerson 0 = .ok (.aload_n 0, 1) := by decide +kernel
theorem dX9_requirePerson_1 : decode cX9_requirePerson 1 = .ok (.getfield 10, 3) := by decide +kernel
theorem dX9_requirePerson_4 : decode cX9_requirePerson 4 = .ok (.getfield 151, 3) := by decide +kernel
theorem u_1032 : Cond.fieldLink RX9 151 "MoonlitDoors$State" "persons" "LMoonlitDoors$Persons;" ∈ UW := uw 1032 (by decide +kernel) rfl
theorem dX9_requirePerson_7 : decode cX9_requirePerson 7 = .ok (.iload_n 1, 1) := by decide +kernel
theorem dX9_requirePerson_8 : decode cX9_requirePerson 8 = .ok (.invokevirtual 352, 3) := by decide +kernel
theorem u_794 : Cond.methodLink RX9 352 yX5_holds ∈ UW := uw 794 (by decide +kernel) rfl
theorem g_X9_352 : GoodIn UW (wsV RX9 352 RX5 yX5_holds (wsU yX5_holds cX5_holds 2 (some .boolean))) := gV u_794 u_732 u_733 u_25 u_734
theorem dX9_requirePerson_11 : decode cX9_requirePerson 11 = .ok (.ifCond .ne 14, 3) := by decide +kernel
theorem dX9_requirePerson_25 : decode cX9_requirePerson 25 = .ok (.return_, 1) := by decide +kernel
theorem dX9_requirePerson_14 : decode cX9_requirePerson 14 = .ok (.new 292, 3) := by decide +kernel
theorem dX9_requirePerson_17 : decode cX9_requirePerson 17 = .ok (.dup, 1) := by decide +kernel
theorem dX9_requirePerson_18 : decode cX9_requirePerson 18 = .ok (.ldc_w 353, 3) := by decide +kernel
theorem dX9_requirePerson_21 : decode cX9_requirePerson 21 = .ok (.invokespecial 296, 3) := by decide +kernel
theorem dX9_requirePerson_24 : decode cX9_requirePerson 24 = .ok (.athrow, 1) := by decide +kernel
def f_X9_requirePerson (q : McV) (v : StV) (ps : Int32) : String := (if (f_X5_holds v.2.2.2.2.1 ps) = (0 : Int32) then "java/lang/IndexOutOfBoundsException" else "")
set_option maxHeartbeats 4000000 in
set_option maxRecDepth 100000 in
theorem c_X9_requirePerson (l : Launch) (hlf : l.stackTraces = false) (G : GG) (qh0 : Nat) (q_snapshot : Nat) (q_history : Nat) (q_program : Nat) (q_notice : Nat) (va : Nat → Nat) (q : McV) (v : StV) (ps : Int32) : xrMet l yX9_requirePerson cX9_requirePerson 2 none 8 1 6 G (fl [[(qh0, .inr (11, [.ref (va 0), .ref q_snapshot, .int q.1, .ref q_history, .ref q_program, .ref q_notice, .int q.2.1, .int q.2.2]))], [((va 0), .inr (10, [.int v.1, .int v.2.1, .ref (va 1), .ref (va 6), .ref (va 10), .ref (va 13)]))], wDo G (va 1) (va 2) (va 3) (va 4) (va 5) v.2.2.1, wEx G (va 6) (va 7) (va 8) (va 9) v.2.2.2.1, wPe G (va 10) (va 11) (va 12) v.2.2.2.2.1, wAu G (va 13) (va 14) (va 15) (va 16) (va 17) (va 18) (va 19) v.2.2.2.2.2]) [.ref qh0, .int ps] (none) ((f_X9_requirePerson q v ps) = "" ∧ True) (fun E => E = (f_X9_requirePerson q v ps) ∧ E ≠ "") := by
  refine xr_start (by decide +kernel) (Nat.le_of_ble_eq_true rfl) ?_
  intro p e s m below meth c hx hb hr hml hts hown hlk hxt hP hK hST ls hl
  have hS : va_S (fun _ => False) s.heap s.heap [] := va_S.rf
  have hown : s.vm.findClass RX9 = some m.cls := hown
  have hl : lv_has ls 2 [(0, .ref qh0), (1, .int ps)] := hl
  have hF : f_X9_requirePerson q v ps = (if (f_X5_holds v.2.2.2.2.1 ps) = (0 : Int32) then "java/lang/IndexOutOfBoundsException" else "") := rfl
  refine lv_aload_n hx hb dX9_requirePerson_0 rfl (lv_at hl 0 rfl) ?_
  refine va_get (D := G.1) (ci := 11) (v := .ref (va 0)) (C := RX9) (T := TX9) (N := 8) hx hb hts uws_X9 hown hK hP 0 rfl rfl 0 (by decide) (hts _ u_1097) (fun _ h9 => h9) rfl dX9_requirePerson_1 ?_
  refine va_get (D := G.1) (ci := 10) (v := .ref (va 10)) (C := RX8) (T := TX8) (N := 6) hx hb hts uws_X8 hown hK hP 1 rfl rfl 4 (by decide) (hts _ u_1032) (fun _ h9 => h9) rfl dX9_requirePerson_4 ?_
  refine lv_iload_n hx hb dX9_requirePerson_7 rfl (lv_at hl 1 rfl) ?_
  refine r_V (own := RX9) (v := (some (.int (f_X5_holds v.2.2.2.2.1 ps)))) (st1 := [.int (f_X5_holds v.2.2.2.2.1 ps)]) (As := [.int ps]) (rest := []) (c_X5_holds l G (va 10) (va 11) (va 12) v.2.2.2.2.1 ps) ⟨hx, hb, hml, hown, hts⟩ g_X9_352 hdv_X5_holds hK hST hS hP [11, 12, 13] rfl (k0 := 0) rfl rfl rfl ⟨Nat.le_of_ble_eq_true rfl, Nat.le_of_ble_eq_true rfl⟩ ⟨Nat.le_of_ble_eq_true rfl, Nat.le_of_ble_eq_true rfl⟩ rfl hl.1 rfl (Nat.le_of_ble_eq_true rfl) dX9_requirePerson_8 rfl (fun b_1 => ?_)
  refine lv_if_ne (tgt := 25) hx hb dX9_requirePerson_11 (by decide) (fun c_2 => ?_) (fun c_2 => ?_)
  · have hF := hF.trans (if_neg c_2)
    exact x_retV hx hb hr hlk ⟨hF, trivial⟩ (Nat.le_of_ble_eq_true rfl) (Nat.le_of_ble_eq_true rfl) dX9_requirePerson_25
  · have hF := hF.trans (if_pos c_2)
    exact xr_throwSW (A := (fun _ => False)) (own := RX9) (cls := "java/lang/IndexOutOfBoundsException") (text := "no such person") (j := 34) hlf ⟨hx, hb, hml, hown, hts⟩ hST hlk hxt (by decide +kernel) u_79 u_38 (by decide +kernel) at_X9_296 ot_X9_296_292 hl.1 dX9_requirePerson_14 dX9_requirePerson_17 dX9_requirePerson_18 dX9_requirePerson_21 dX9_requirePerson_24 ⟨Nat.le_of_ble_eq_true rfl, Nat.le_of_ble_eq_true rfl⟩ ⟨Nat.le_of_ble_eq_true rfl, Nat.le_of_ble_eq_true rfl⟩ ⟨(hF).symm, by decide⟩ (Nat.le_of_ble_eq_true rfl) (Nat.le_of_ble_eq_true rfl)
theorem dX9_doorCount_0 : decode cX9_doorCount 0 = .ok (.aload_n 0, 1) := by decide +kernel
theorem dX9_doorCount_1 : decode cX9_doorCount 1 = .ok (.getfield 10, 3) := by decide +kernel
theorem dX9_doorCount_4 : decode cX9_doorCount 4 = .ok (.getfield 63, 3) := by decide +kernel
theorem dX9_doorCount_7 : decode cX9_doorCount 7 = .ok (.getfield 116, 3) := by decide +kernel
theorem u_942 : Cond.fieldLink RX9 116 "MoonlitDoors$Doors" "count" "I" ∈ UW := uw 942 (by decide +kernel) rfl
theorem dX9_doorCount_10 : decode cX9_doorCount 10 = .ok (.ireturn, 1) := by decide +kernel
def f_X9_doorCount (q : McV) (v : StV) : Int32 := v.2.2.1.1
set_option maxHeartbeats 4000000 in
set_option maxRecDepth 100000 in
theorem c_X9_doorCount (l : Launch) (G : GG) (qh0 : Nat) (q_snapshot : Nat) (q_history : Nat) (q_program : Nat) (q_notice : Nat) (va : Nat → Nat) (q : McV) (v : StV) : rMet l yX9_doorCount cX9_doorCount 1 (some .int) 1 G (fl [[(qh0, .inr (11, [.ref (va 0), .ref q_snapshot, .int q.1, .ref q_history, .ref q_program, .ref q_notice, .int q.2.1, .int q.2.2]))], [((va 0), .inr (10, [.int v.1, .int v.2.1, .ref (va 1), .ref (va 6), .ref (va 10), .ref (va 13)]))], wDo G (va 1) (va 2) (va 3) (va 4) (va 5) v.2.2.1, wEx G (va 6) (va 7) (va 8) (va 9) v.2.2.2.1, wPe G (va 10) (va 11) (va 12) v.2.2.2.2.1, wAu G (va 13) (va 14) (va 15) (va 16) (va 17) (va 18) (va 19) v.2.2.2.2.2]) [.ref qh0] (some (.int (f_X9_doorCount q v))) (True) := by
  refine r_start (by decide +kernel) (Nat.le_of_ble_eq_true rfl) ?_
  intro p e s m below meth c hx hb hr hml hts hown hlk hP hK hST ls hl
  have hS : va_S (fun _ => False) s.heap s.heap [] := va_S.rf
  have hown : s.vm.findClass RX9 = some m.cls := hown
  have hl : lv_has ls 1 [(0, .ref qh0)] := hl
  have hF : f_X9_doorCount q v = v.2.2.1.1 := rfl
  refine lv_aload_n hx hb dX9_doorCount_0 rfl (lv_at hl 0 rfl) ?_
  refine va_get (D := G.1) (ci := 11) (v := .ref (va 0)) (C := RX9) (T := TX9) (N := 8) hx hb hts uws_X9 hown hK hP 0 rfl rfl 0 (by decide) (hts _ u_1097) (fun _ h9 => h9) rfl dX9_doorCount_1 ?_
  refine va_get (D := G.1) (ci := 10) (v := .ref (va 1)) (C := RX8) (T := TX8) (N := 6) hx hb hts uws_X8 hown hK hP 1 rfl rfl 2 (by decide) (hts _ u_1028) (fun _ h9 => h9) rfl dX9_doorCount_4 ?_
  refine va_get (D := G.1) (ci := 6) (v := .int v.2.2.1.1) (C := RX2) (T := TX2) (N := 5) hx hb hts uws_X2 hown hK hP 2 rfl rfl 0 (by decide) (hts _ u_942) (fun _ h9 => h9) rfl dX9_doorCount_7 ?_
  exact r_ret hx hb hr hlk rfl (by rw [hF]) trivial dX9_doorCount_10
theorem dX9_exceptionCount_0 : decode cX9_exceptionCount 0 = .ok (.aload_n 0, 1) := by decide +kernel
theorem dX9_exceptionCount_1 : decode cX9_exceptionCount 1 = .ok (.getfield 10, 3) := by decide +kernel
theorem dX9_exceptionCount_4 : decode cX9_exceptionCount 4 = .ok (.getfield 92, 3) := by decide +kernel
theorem u_1030 : Cond.fieldLink RX9 92 "MoonlitDoors$State" "exceptions" "LMoonlitDoors$DayExceptions;" ∈ UW := uw 1030 (by decide +kernel) rfl
theorem dX9_exceptionCount_7 : decode cX9_exceptionCount 7 = .ok (.getfield 132, 3) := by decide +kernel
theorem u_966 : Cond.fieldLink RX9 132 "MoonlitDoors$DayExceptions" "count" "I" ∈ UW := uw 966 (by decide +kernel) rfl
theorem dX9_exceptionCount_10 : decode cX9_exceptionCount 10 = .ok (.ireturn, 1) := by decide +kernel
def f_X9_exceptionCount (q : McV) (v : StV) : Int32 := v.2.2.2.1.1
set_option maxHeartbeats 4000000 in
set_option maxRecDepth 100000 in
theorem c_X9_exceptionCount (l : Launch) (G : GG) (qh0 : Nat) (q_snapshot : Nat) (q_history : Nat) (q_program : Nat) (q_notice : Nat) (va : Nat → Nat) (q : McV) (v : StV) : rMet l yX9_exceptionCount cX9_exceptionCount 1 (some .int) 1 G (fl [[(qh0, .inr (11, [.ref (va 0), .ref q_snapshot, .int q.1, .ref q_history, .ref q_program, .ref q_notice, .int q.2.1, .int q.2.2]))], [((va 0), .inr (10, [.int v.1, .int v.2.1, .ref (va 1), .ref (va 6), .ref (va 10), .ref (va 13)]))], wDo G (va 1) (va 2) (va 3) (va 4) (va 5) v.2.2.1, wEx G (va 6) (va 7) (va 8) (va 9) v.2.2.2.1, wPe G (va 10) (va 11) (va 12) v.2.2.2.2.1, wAu G (va 13) (va 14) (va 15) (va 16) (va 17) (va 18) (va 19) v.2.2.2.2.2]) [.ref qh0] (some (.int (f_X9_exceptionCount q v))) (True) := by
  refine r_start (by decide +kernel) (Nat.le_of_ble_eq_true rfl) ?_
  intro p e s m below meth c hx hb hr hml hts hown hlk hP hK hST ls hl
  have hS : va_S (fun _ => False) s.heap s.heap [] := va_S.rf
  have hown : s.vm.findClass RX9 = some m.cls := hown
  have hl : lv_has ls 1 [(0, .ref qh0)] := hl
  have hF : f_X9_exceptionCount q v = v.2.2.2.1.1 := rfl
  refine lv_aload_n hx hb dX9_exceptionCount_0 rfl (lv_at hl 0 rfl) ?_
  refine va_get (D := G.1) (ci := 11) (v := .ref (va 0)) (C := RX9) (T := TX9) (N := 8) hx hb hts uws_X9 hown hK hP 0 rfl rfl 0 (by decide) (hts _ u_1097) (fun _ h9 => h9) rfl dX9_exceptionCount_1 ?_
  refine va_get (D := G.1) (ci := 10) (v := .ref (va 6)) (C := RX8) (T := TX8) (N := 6) hx hb hts uws_X8 hown hK hP 1 rfl rfl 3 (by decide) (hts _ u_1030) (fun _ h9 => h9) rfl dX9_exceptionCount_4 ?_
  refine va_get (D := G.1) (ci := 5) (v := .int v.2.2.2.1.1) (C := RX1) (T := TX1) (N := 4) hx hb hts uws_X1 hown hK hP 7 rfl rfl 0 (by decide) (hts _ u_966) (fun _ h9 => h9) rfl dX9_exceptionCount_7 ?_
  exact r_ret hx hb hr hlk rfl (by rw [hF]) trivial dX9_exceptionCount_10
theorem dX9_personCount_0 : decode cX9_personCount 0 = .ok (.aload_n 0, 1) := by decide +kernel
theorem dX9_personCount_1 : decode cX9_personCount 1 = .ok (.getfield 10, 3) := by decide +kernel
theorem dX9_personCount_4 : decode cX9_personCount 4 = .ok (.getfield 151, 3) := by decide +kernel
theorem dX9_personCount_7 : decode cX9_personCount 7 = .ok (.getfield 155, 3) := by decide +kernel
theorem u_985 : Cond.fieldLink RX9 155 "MoonlitDoors$Persons" "count" "I" ∈ UW := uw 985 (by decide +kernel) rfl
theorem dX9_personCount_10 : decode cX9_personCount 10 = .ok (.ireturn, 1) := by decide +kernel
def f_X9_personCount (q : McV) (v : StV) : Int32 := v.2.2.2.2.1.1
set_option maxHeartbeats 4000000 in
set_option maxRecDepth 100000 in
theorem c_X9_personCount (l : Launch) (G : GG) (qh0 : Nat) (q_snapshot : Nat) (q_history : Nat) (q_program : Nat) (q_notice : Nat) (va : Nat → Nat) (q : McV) (v : StV) : rMet l yX9_personCount cX9_personCount 1 (some .int) 1 G (fl [[(qh0, .inr (11, [.ref (va 0), .ref q_snapshot, .int q.1, .ref q_history, .ref q_program, .ref q_notice, .int q.2.1, .int q.2.2]))], [((va 0), .inr (10, [.int v.1, .int v.2.1, .ref (va 1), .ref (va 6), .ref (va 10), .ref (va 13)]))], wDo G (va 1) (va 2) (va 3) (va 4) (va 5) v.2.2.1, wEx G (va 6) (va 7) (va 8) (va 9) v.2.2.2.1, wPe G (va 10) (va 11) (va 12) v.2.2.2.2.1, wAu G (va 13) (va 14) (va 15) (va 16) (va 17) (va 18) (va 19) v.2.2.2.2.2]) [.ref qh0] (some (.int (f_X9_personCount q v))) (True) := by
  refine r_start (by decide +kernel) (Nat.le_of_ble_eq_true rfl) ?_
  intro p e s m below meth c hx hb hr hml hts hown hlk hP hK hST ls hl
  have hS : va_S (fun _ => False) s.heap s.heap [] := va_S.rf
  have hown : s.vm.findClass RX9 = some m.cls := hown
  have hl : lv_has ls 1 [(0, .ref qh0)] := hl
  have hF : f_X9_personCount q v = v.2.2.2.2.1.1 := rfl
  refine lv_aload_n hx hb dX9_personCount_0 rfl (lv_at hl 0 rfl) ?_
  refine va_get (D := G.1) (ci := 11) (v := .ref (va 0)) (C := RX9) (T := TX9) (N := 8) hx hb hts uws_X9 hown hK hP 0 rfl rfl 0 (by decide) (hts _ u_1097) (fun _ h9 => h9) rfl dX9_personCount_1 ?_
  refine va_get (D := G.1) (ci := 10) (v := .ref (va 10)) (C := RX8) (T := TX8) (N := 6) hx hb hts uws_X8 hown hK hP 1 rfl rfl 4 (by decide) (hts _ u_1032) (fun _ h9 => h9) rfl dX9_personCount_4 ?_
  refine va_get (D := G.1) (ci := 8) (v := .int v.2.2.2.2.1.1) (C := RX5) (T := TX5) (N := 3) hx hb hts uws_X5 hown hK hP 11 rfl rfl 0 (by decide) (hts _ u_985) (fun _ h9 => h9) rfl dX9_personCount_7 ?_
  exact r_ret hx hb hr hlk rfl (by rw [hF]) trivial dX9_personCount_10
theorem dX9_day_0 : decode cX9_day 0 = .ok (.aload_n 0, 1) := by decide +kernel
theorem dX9_day_1 : decode cX9_day 1 = .ok (.getfield 10, 3) := by decide +kernel
theorem dX9_day_4 : decode cX9_day 4 = .ok (.invokevirtual 213, 3) := by decide +kernel
theorem u_59 : Cond.methodLink RX9 213 yX8_today ∈ UW := uw 59 (by decide +kernel) rfl
theorem g_X9_213 : GoodIn UW (wsV RX9 213 RX8 yX8_today (wsU yX8_today cX8_today 1 (some .int))) := gV u_59 u_60 u_61 u_22 u_62
theorem dX9_day_7 : decode cX9_day 7 = .ok (.ireturn, 1) := by decide +kernel
def f_X9_day (q : McV) (v : StV) : Int32 := (f_X8_today v)
set_option maxHeartbeats 4000000 in
set_option maxRecDepth 100000 in
theorem c_X9_day (l : Launch) (G : GG) (qh0 : Nat) (q_snapshot : Nat) (q_history : Nat) (q_program : Nat) (q_notice : Nat) (va : Nat → Nat) (q : McV) (v : StV) : rMet l yX9_day cX9_day 1 (some .int) 3 G (fl [[(qh0, .inr (11, [.ref (va 0), .ref q_snapshot, .int q.1, .ref q_history, .ref q_program, .ref q_notice, .int q.2.1, .int q.2.2]))], [((va 0), .inr (10, [.int v.1, .int v.2.1, .ref (va 1), .ref (va 6), .ref (va 10), .ref (va 13)]))], wDo G (va 1) (va 2) (va 3) (va 4) (va 5) v.2.2.1, wEx G (va 6) (va 7) (va 8) (va 9) v.2.2.2.1, wPe G (va 10) (va 11) (va 12) v.2.2.2.2.1, wAu G (va 13) (va 14) (va 15) (va 16) (va 17) (va 18) (va 19) v.2.2.2.2.2]) [.ref qh0] (some (.int (f_X9_day q v))) (True) := by
  refine r_start (by decide +kernel) (Nat.le_of_ble_eq_true rfl) ?_
  intro p e s m below meth c hx hb hr hml hts hown hlk hP hK hST ls hl
  have hS : va_S (fun _ => False) s.heap s.heap [] := va_S.rf
  have hown : s.vm.findClass RX9 = some m.cls := hown
  have hl : lv_has ls 1 [(0, .ref qh0)] := hl
  have hF : f_X9_day q v = (f_X8_today v) := rfl
  refine lv_aload_n hx hb dX9_day_0 rfl (lv_at hl 0 rfl) ?_
  refine va_get (D := G.1) (ci := 11) (v := .ref (va 0)) (C := RX9) (T := TX9) (N := 8) hx hb hts uws_X9 hown hK hP 0 rfl rfl 0 (by decide) (hts _ u_1097) (fun _ h9 => h9) rfl dX9_day_1 ?_
  refine r_V (own := RX9) (v := (some (.int (f_X8_today v)))) (st1 := [.int (f_X8_today v)]) (As := []) (rest := []) (c_X8_today l G va v) ⟨hx, hb, hml, hown, hts⟩ g_X9_213 hdv_X8_today hK hST hS hP [1, 2, 3, 4, 5, 6, 7, 8, 9, 10, 11, 12, 13, 14, 15, 16, 17, 18, 19, 20] rfl (k0 := 0) rfl rfl rfl ⟨Nat.le_of_ble_eq_true rfl, Nat.le_of_ble_eq_true rfl⟩ ⟨Nat.le_of_ble_eq_true rfl, Nat.le_of_ble_eq_true rfl⟩ rfl hl.1 rfl (Nat.le_of_ble_eq_true rfl) dX9_day_4 rfl (fun b_1 => ?_)
  exact r_ret hx hb hr hlk rfl (by rw [hF]) trivial dX9_day_7
theorem dX9_hour_0 : decode cX9_hour 0 = .ok (.aload_n 0, 1) := by decide +kernel
theorem dX9_hour_1 : decode cX9_hour 1 = .ok (.getfield 10, 3) := by decide +kernel
theorem dX9_hour_4 : decode cX9_hour 4 = .ok (.invokevirtual 216, 3) := by decide +kernel
theorem u_1406 : Cond.methodLink RX9 216 yX8_hourNow ∈ UW := uw 1406 (by decide +kernel) rfl
theorem g_X9_216 : GoodIn UW (wsV RX9 216 RX8 yX8_hourNow (wsU yX8_hourNow cX8_hourNow 1 (some .int))) := gV u_1406 u_753 u_754 u_22 u_755
theorem dX9_hour_7 : decode cX9_hour 7 = .ok (.ireturn, 1) := by decide +kernel
def f_X9_hour (q : McV) (v : StV) : Int32 := (f_X8_hourNow v)
set_option maxHeartbeats 4000000 in
set_option maxRecDepth 100000 in
theorem c_X9_hour (l : Launch) (G : GG) (qh0 : Nat) (q_snapshot : Nat) (q_history : Nat) (q_program : Nat) (q_notice : Nat) (va : Nat → Nat) (q : McV) (v : StV) : rMet l yX9_hour cX9_hour 1 (some .int) 3 G (fl [[(qh0, .inr (11, [.ref (va 0), .ref q_snapshot, .int q.1, .ref q_history, .ref q_program, .ref q_notice, .int q.2.1, .int q.2.2]))], [((va 0), .inr (10, [.int v.1, .int v.2.1, .ref (va 1), .ref (va 6), .ref (va 10), .ref (va 13)]))], wDo G (va 1) (va 2) (va 3) (va 4) (va 5) v.2.2.1, wEx G (va 6) (va 7) (va 8) (va 9) v.2.2.2.1, wPe G (va 10) (va 11) (va 12) v.2.2.2.2.1, wAu G (va 13) (va 14) (va 15) (va 16) (va 17) (va 18) (va 19) v.2.2.2.2.2]) [.ref qh0] (some (.int (f_X9_hour q v))) (True) := by
  refine r_start (by decide +kernel) (Nat.le_of_ble_eq_true rfl) ?_
  intro p e s m below meth c hx hb hr hml hts hown hlk hP hK hST ls hl
  have hS : va_S (fun _ => False) s.heap s.heap [] := va_S.rf
  have hown : s.vm.findClass RX9 = some m.cls := hown
  have hl : lv_has ls 1 [(0, .ref qh0)] := hl
  have hF : f_X9_hour q v = (f_X8_hourNow v) := rfl
  refine lv_aload_n hx hb dX9_hour_0 rfl (lv_at hl 0 rfl) ?_
  refine va_get (D := G.1) (ci := 11) (v := .ref (va 0)) (C := RX9) (T := TX9) (N := 8) hx hb hts uws_X9 hown hK hP 0 rfl rfl 0 (by decide) (hts _ u_1097) (fun _ h9 => h9) rfl dX9_hour_1 ?_
  refine r_V (own := RX9) (v := (some (.int (f_X8_hourNow v)))) (st1 := [.int (f_X8_hourNow v)]) (As := []) (rest := []) (c_X8_hourNow l G va v) ⟨hx, hb, hml, hown, hts⟩ g_X9_216 hdv_X8_hourNow hK hST hS hP [1, 2, 3, 4, 5, 6, 7, 8, 9, 10, 11, 12, 13, 14, 15, 16, 17, 18, 19, 20] rfl (k0 := 0) rfl rfl rfl ⟨Nat.le_of_ble_eq_true rfl, Nat.le_of_ble_eq_true rfl⟩ ⟨Nat.le_of_ble_eq_true rfl, Nat.le_of_ble_eq_true rfl⟩ rfl hl.1 rfl (Nat.le_of_ble_eq_true rfl) dX9_hour_4 rfl (fun b_1 => ?_)
  exact r_ret hx hb hr hlk rfl (by rw [hF]) trivial dX9_hour_7
theorem dX9_phasesOf_0 : decode cX9_phasesOf 0 = .ok (.aload_n 0, 1) := by decide +kernel
theorem dX9_phasesOf_1 : decode cX9_phasesOf 1 = .ok (.iload_n 1, 1) := by decide +kernel
theorem dX9_phasesOf_2 : decode cX9_phasesOf 2 = .ok (.invokevirtual 73, 3) := by decide +kernel
theorem u_70 : Cond.methodLink RX9 73 yX9_requireDoor ∈ UW := uw 70 (by decide +kernel) rfl
theorem u_72 : Cond.instanceMethod yX9_requireDoor ∈ UW := uw 72 (by decide +kernel) rfl
theorem u_0 : Cond.selects RX9 yX9_requireDoor yX9_requireDoor ∈ UW := uw 0 (by decide +kernel) rfl
theorem u_21 : Cond.initialized RX9 ∈ UW := uw 21 (by decide +kernel) rfl
theorem u_74 : Cond.code yX9_requireDoor cX9_requireDoor 2 none ∈ UW := uw 74 (by decide +kernel) rfl
theorem g_X9_73 : GoodIn UW (wsV RX9 73 RX9 yX9_requireDoor (wsU yX9_requireDoor cX9_requireDoor 2 none)) := gV u_70 u_72 u_0 u_21 u_74
theorem hdv_X9_requireDoor : yX9_requireDoor.cls = RX9 ∧ yX9_requireDoor.cls ≠ "java/lang/invoke/MethodHandle" ∧ yX9_requireDoor.cls ≠ "java/lang/invoke/VarHandle" ∧ (parseMethodDescriptor yX9_requireDoor.desc).map (fun d => d.parameters.length) = some 1 := by decide +kernel
theorem dX9_phasesOf_5 : decode cX9_phasesOf 5 = .ok (.aload_n 0, 1) := by decide +kernel
theorem dX9_phasesOf_6 : decode cX9_phasesOf 6 = .ok (.getfield 10, 3) := by decide +kernel
theorem dX9_phasesOf_9 : decode cX9_phasesOf 9 = .ok (.getfield 63, 3) := by decide +kernel
theorem dX9_phasesOf_12 : decode cX9_phasesOf 12 = .ok (.iload_n 1, 1) := by decide +kernel
theorem dX9_phasesOf_13 : decode cX9_phasesOf 13 = .ok (.invokevirtual 119, 3) := by decide +kernel
theorem u_1428 : Cond.methodLink RX9 119 yX2_phaseSetFor ∈ UW := uw 1428 (by decide +kernel) rfl
theorem u_1429 : Cond.instanceMethod yX2_phaseSetFor ∈ UW := uw 1429 (by decide +kernel) rfl
theorem u_1430 : Cond.selects RX2 yX2_phaseSetFor yX2_phaseSetFor ∈ UW := uw 1430 (by decide +kernel) rfl
theorem u_1431 : Cond.code yX2_phaseSetFor cX2_phaseSetFor 2 (some .int) ∈ UW := uw 1431 (by decide +kernel) rfl
theorem g_X9_119 : GoodIn UW (wsV RX9 119 RX2 yX2_phaseSetFor (wsU yX2_phaseSetFor cX2_phaseSetFor 2 (some .int))) := gV u_1428 u_1429 u_1430 u_23 u_1431
theorem hdv_X2_phaseSetFor : yX2_phaseSetFor.cls = RX2 ∧ yX2_phaseSetFor.cls ≠ "java/lang/invoke/MethodHandle" ∧ yX2_phaseSetFor.cls ≠ "java/lang/invoke/VarHandle" ∧ (parseMethodDescriptor yX2_phaseSetFor.desc).map (fun d => d.parameters.length) = some 1 := by decide +kernel
theorem dX9_phasesOf_16 : decode cX9_phasesOf 16 = .ok (.ireturn, 1) := by decide +kernel
def f_X9_phasesOf (q : McV) (v : StV) (x : Int32) : String × Int32 := (if (f_X9_requireDoor q v x) = "" then ("", (f_X2_phaseSetFor v.2.2.1 x)) else ((f_X9_requireDoor q v x), 0))
set_option maxHeartbeats 4000000 in
set_option maxRecDepth 100000 in
theorem c_X9_phasesOf (l : Launch) (hlf : l.stackTraces = false) (G : GG) (qh0 : Nat) (q_snapshot : Nat) (q_history : Nat) (q_program : Nat) (q_notice : Nat) (va : Nat → Nat) (q : McV) (v : StV) (x : Int32) : xrMet l yX9_phasesOf cX9_phasesOf 2 (some .int) 9 1 6 G (fl [[(qh0, .inr (11, [.ref (va 0), .ref q_snapshot, .int q.1, .ref q_history, .ref q_program, .ref q_notice, .int q.2.1, .int q.2.2]))], [((va 0), .inr (10, [.int v.1, .int v.2.1, .ref (va 1), .ref (va 6), .ref (va 10), .ref (va 13)]))], wDo G (va 1) (va 2) (va 3) (va 4) (va 5) v.2.2.1, wEx G (va 6) (va 7) (va 8) (va 9) v.2.2.2.1, wPe G (va 10) (va 11) (va 12) v.2.2.2.2.1, wAu G (va 13) (va 14) (va 15) (va 16) (va 17) (va 18) (va 19) v.2.2.2.2.2]) [.ref qh0, .int x] (some (.int ((f_X9_phasesOf q v x).2))) ((f_X9_phasesOf q v x).1 = "" ∧ True) (fun E => E = (f_X9_phasesOf q v x).1 ∧ E ≠ "") := by
  refine xr_start (by decide +kernel) (Nat.le_of_ble_eq_true rfl) ?_
  intro p e s m below meth c hx hb hr hml hts hown hlk hxt hP hK hST ls hl
  have hS : va_S (fun _ => False) s.heap s.heap [] := va_S.rf
  have hown : s.vm.findClass RX9 = some m.cls := hown
  have hl : lv_has ls 2 [(0, .ref qh0), (1, .int x)] := hl
  have hF : f_X9_phasesOf q v x = (if (f_X9_requireDoor q v x) = "" then ("", (f_X2_phaseSetFor v.2.2.1 x)) else ((f_X9_requireDoor q v x), 0)) := rfl
  refine lv_aload_n hx hb dX9_phasesOf_0 rfl (lv_at hl 0 rfl) ?_
  refine lv_iload_n hx hb dX9_phasesOf_1 rfl (lv_at hl 1 rfl) ?_
  refine xr_V (own := RX9) (v := none) (st1 := []) (As := [.int x]) (rest := []) (c_X9_requireDoor l hlf G qh0 q_snapshot q_history q_program q_notice va q v x) ⟨hx, hb, hml, hown, hts⟩ g_X9_73 hdv_X9_requireDoor hK hST hS hP [0, 1, 2, 3, 4, 5, 6, 7, 8, 9, 10, 11, 12, 13, 14, 15, 16, 17, 18, 19, 20] rfl (k0 := 0) rfl rfl rfl ⟨Nat.le_of_ble_eq_true rfl, Nat.le_of_ble_eq_true rfl⟩ ⟨Nat.le_of_ble_eq_true rfl, Nat.le_of_ble_eq_true rfl⟩ rfl hl.1 rfl (Nat.le_of_ble_eq_true rfl) dX9_phasesOf_2 rfl (fun E ce q9 H1 hE h1 h2 h3 h4 h5 => xr_out hxt hlk h3 h4 h5 h1 h2 rfl ⟨hE.1.trans (congrArg Prod.fst (hF.trans (if_neg (fun e => hE.2 (hE.1.trans e))))).symm, hE.2⟩ (Nat.le_of_ble_eq_true rfl) (Nat.le_of_ble_eq_true rfl)) (fun b_1 => ?_)
  have hE := b_1.1
  have b_1 := b_1.2
  have hF := hF.trans (if_pos hE)
  refine lv_aload_n hx hb dX9_phasesOf_5 rfl (lv_at hl 0 rfl) ?_
  refine va_get (D := G.1) (ci := 11) (v := .ref (va 0)) (C := RX9) (T := TX9) (N := 8) hx hb hts uws_X9 hown hK hP 0 rfl rfl 0 (by decide) (hts _ u_1097) (fun _ h9 => h9) rfl dX9_phasesOf_6 ?_
  refine va_get (D := G.1) (ci := 10) (v := .ref (va 1)) (C := RX8) (T := TX8) (N := 6) hx hb hts uws_X8 hown hK hP 1 rfl rfl 2 (by decide) (hts _ u_1028) (fun _ h9 => h9) rfl dX9_phasesOf_9 ?_
  refine lv_iload_n hx hb dX9_phasesOf_12 rfl (lv_at hl 1 rfl) ?_
  refine r_V (own := RX9) (v := (some (.int (f_X2_phaseSetFor v.2.2.1 x)))) (st1 := [.int (f_X2_phaseSetFor v.2.2.1 x)]) (As := [.int x]) (rest := []) (c_X2_phaseSetFor l G (va 1) (va 2) (va 3) (va 4) (va 5) v.2.2.1 x) ⟨hx, hb, hml, hown, hts⟩ g_X9_119 hdv_X2_phaseSetFor hK hST hS hP [2, 3, 4, 5, 6] rfl (k0 := 0) rfl rfl rfl ⟨Nat.le_of_ble_eq_true rfl, Nat.le_of_ble_eq_true rfl⟩ ⟨Nat.le_of_ble_eq_true rfl, Nat.le_of_ble_eq_true rfl⟩ rfl hl.1 rfl (Nat.le_of_ble_eq_true rfl) dX9_phasesOf_13 rfl (fun b_2 => ?_)
  exact x_retI hx hb hr hlk rfl (by rw [hF]) ⟨congrArg Prod.fst hF, trivial⟩ (Nat.le_of_ble_eq_true rfl) (Nat.le_of_ble_eq_true rfl) dX9_phasesOf_16
theorem dX9_keyOf_0 : decode cX9_keyOf 0 = .ok (.aload_n 0, 1) := by decide +kernel
theorem dX9_keyOf_1 : decode cX9_keyOf 1 = .ok (.iload_n 1, 1) := by decide +kernel
theorem dX9_keyOf_2 : decode cX9_keyOf 2 = .ok (.invokevirtual 73, 3) := by decide +kernel
theorem dX9_keyOf_5 : decode cX9_keyOf 5 = .ok (.aload_n 0, 1) := by decide +kernel
theorem dX9_keyOf_6 : decode cX9_keyOf 6 = .ok (.getfield 10, 3) := by decide +kernel
theorem dX9_keyOf_9 : decode cX9_keyOf 9 = .ok (.getfield 63, 3) := by decide +kernel
theorem dX9_keyOf_12 : decode cX9_keyOf 12 = .ok (.iload_n 1, 1) := by decide +kernel
theorem dX9_keyOf_13 : decode cX9_keyOf 13 = .ok (.invokevirtual 80, 3) := by decide +kernel
theorem u_1187 : Cond.methodLink RX9 80 yX2_keyFor ∈ UW := uw 1187 (by decide +kernel) rfl
theorem g_X9_80 : GoodIn UW (wsV RX9 80 RX2 yX2_keyFor (wsU yX2_keyFor cX2_keyFor 2 (some .int))) := gV u_1187 u_744 u_745 u_23 u_746
theorem dX9_keyOf_16 : decode cX9_keyOf 16 = .ok (.ireturn, 1) := by decide +kernel
def f_X9_keyOf (q : McV) (v : StV) (x : Int32) : String × Int32 := (if (f_X9_requireDoor q v x) = "" then ("", (f_X2_keyFor v.2.2.1 x)) else ((f_X9_requireDoor q v x), 0))
set_option maxHeartbeats 4000000 in
set_option maxRecDepth 100000 in
theorem c_X9_keyOf (l : Launch) (hlf : l.stackTraces = false) (G : GG) (qh0 : Nat) (q_snapshot : Nat) (q_history : Nat) (q_program : Nat) (q_notice : Nat) (va : Nat → Nat) (q : McV) (v : StV) (x : Int32) : xrMet l yX9_keyOf cX9_keyOf 2 (some .int) 9 1 6 G (fl [[(qh0, .inr (11, [.ref (va 0), .ref q_snapshot, .int q.1, .ref q_history, .ref q_program, .ref q_notice, .int q.2.1, .int q.2.2]))], [((va 0), .inr (10, [.int v.1, .int v.2.1, .ref (va 1), .ref (va 6), .ref (va 10), .ref (va 13)]))], wDo G (va 1) (va 2) (va 3) (va 4) (va 5) v.2.2.1, wEx G (va 6) (va 7) (va 8) (va 9) v.2.2.2.1, wPe G (va 10) (va 11) (va 12) v.2.2.2.2.1, wAu G (va 13) (va 14) (va 15) (va 16) (va 17) (va 18) (va 19) v.2.2.2.2.2]) [.ref qh0, .int x] (some (.int ((f_X9_keyOf q v x).2))) ((f_X9_keyOf q v x).1 = "" ∧ True) (fun E => E = (f_X9_keyOf q v x).1 ∧ E ≠ "") := by
  refine xr_start (by decide +kernel) (Nat.le_of_ble_eq_true rfl) ?_
  intro p e s m below meth c hx hb hr hml hts hown hlk hxt hP hK hST ls hl
  have hS : va_S (fun _ => False) s.heap s.heap [] := va_S.rf
  have hown : s.vm.findClass RX9 = some m.cls := hown
  have hl : lv_has ls 2 [(0, .ref qh0), (1, .int x)] := hl
  have hF : f_X9_keyOf q v x = (if (f_X9_requireDoor q v x) = "" then ("", (f_X2_keyFor v.2.2.1 x)) else ((f_X9_requireDoor q v x), 0)) := rfl
  refine lv_aload_n hx hb dX9_keyOf_0 rfl (lv_at hl 0 rfl) ?_
  refine lv_iload_n hx hb dX9_keyOf_1 rfl (lv_at hl 1 rfl) ?_
  refine xr_V (own := RX9) (v := none) (st1 := []) (As := [.int x]) (rest := []) (c_X9_requireDoor l hlf G qh0 q_snapshot q_history q_program q_notice va q v x) ⟨hx, hb, hml, hown, hts⟩ g_X9_73 hdv_X9_requireDoor hK hST hS hP [0, 1, 2, 3, 4, 5, 6, 7, 8, 9, 10, 11, 12, 13, 14, 15, 16, 17, 18, 19, 20] rfl (k0 := 0) rfl rfl rfl ⟨Nat.le_of_ble_eq_true rfl, Nat.le_of_ble_eq_true rfl⟩ ⟨Nat.le_of_ble_eq_true rfl, Nat.le_of_ble_eq_true rfl⟩ rfl hl.1 rfl (Nat.le_of_ble_eq_true rfl) dX9_keyOf_2 rfl (fun E ce q9 H1 hE h1 h2 h3 h4 h5 => xr_out hxt hlk h3 h4 h5 h1 h2 rfl ⟨hE.1.trans (congrArg Prod.fst (hF.trans (if_neg (fun e => hE.2 (hE.1.trans e))))).symm, hE.2⟩ (Nat.le_of_ble_eq_true rfl) (Nat.le_of_ble_eq_true rfl)) (fun b_1 => ?_)
  have hE := b_1.1
  have b_1 := b_1.2
  have hF := hF.trans (if_pos hE)
  refine lv_aload_n hx hb dX9_keyOf_5 rfl (lv_at hl 0 rfl) ?_
  refine va_get (D := G.1) (ci := 11) (v := .ref (va 0)) (C := RX9) (T := TX9) (N := 8) hx hb hts uws_X9 hown hK hP 0 rfl rfl 0 (by decide) (hts _ u_1097) (fun _ h9 => h9) rfl dX9_keyOf_6 ?_
  refine va_get (D := G.1) (ci := 10) (v := .ref (va 1)) (C := RX8) (T := TX8) (N := 6) hx hb hts uws_X8 hown hK hP 1 rfl rfl 2 (by decide) (hts _ u_1028) (fun _ h9 => h9) rfl dX9_keyOf_9 ?_
  refine lv_iload_n hx hb dX9_keyOf_12 rfl (lv_at hl 1 rfl) ?_
  refine r_V (own := RX9) (v := (some (.int (f_X2_keyFor v.2.2.1 x)))) (st1 := [.int (f_X2_keyFor v.2.2.1 x)]) (As := [.int x]) (rest := []) (c_X2_keyFor l G (va 1) (va 2) (va 3) (va 4) (va 5) v.2.2.1 x) ⟨hx, hb, hml, hown, hts⟩ g_X9_80 hdv_X2_keyFor hK hST hS hP [2, 3, 4, 5, 6] rfl (k0 := 0) rfl rfl rfl ⟨Nat.le_of_ble_eq_true rfl, Nat.le_of_ble_eq_true rfl⟩ ⟨Nat.le_of_ble_eq_true rfl, Nat.le_of_ble_eq_true rfl⟩ rfl hl.1 rfl (Nat.le_of_ble_eq_true rfl) dX9_keyOf_13 rfl (fun b_2 => ?_)
  exact x_retI hx hb hr hlk rfl (by rw [hF]) ⟨congrArg Prod.fst hF, trivial⟩ (Nat.le_of_ble_eq_true rfl) (Nat.le_of_ble_eq_true rfl) dX9_keyOf_16
theorem dX9_hourCount_0 : decode cX9_hourCount 0 = .ok (.aload_n 0, 1) := by decide +kernel
theorem dX9_hourCount_1 : decode cX9_hourCount 1 = .ok (.iload_n 1, 1) := by decide +kernel
theorem dX9_hourCount_2 : decode cX9_hourCount 2 = .ok (.invokevirtual 73, 3) := by decide +kernel
theorem dX9_hourCount_5 : decode cX9_hourCount 5 = .ok (.aload_n 0, 1) := by decide +kernel
theorem dX9_hourCount_6 : decode cX9_hourCount 6 = .ok (.getfield 10, 3) := by decide +kernel
theorem dX9_hourCount_9 : decode cX9_hourCount 9 = .ok (.getfield 63, 3) := by decide +kernel
theorem dX9_hourCount_12 : decode cX9_hourCount 12 = .ok (.iload_n 1, 1) := by decide +kernel
theorem dX9_hourCount_13 : decode cX9_hourCount 13 = .ok (.invokevirtual 129, 3) := by decide +kernel
theorem u_1440 : Cond.methodLink RX9 129 yX2_countHours ∈ UW := uw 1440 (by decide +kernel) rfl
theorem g_X9_129 : GoodIn UW (wsV RX9 129 RX2 yX2_countHours (wsU yX2_countHours cX2_countHours 3 (some .int))) := gV u_1440 u_871 u_872 u_23 u_873
theorem dX9_hourCount_16 : decode cX9_hourCount 16 = .ok (.ireturn, 1) := by decide +kernel
def f_X9_hourCount (q : McV) (v : StV) (x : Int32) : String × Int32 := (if (f_X9_requireDoor q v x) = "" then ("", (f_X2_countHours v.2.2.1 x)) else ((f_X9_requireDoor q v x), 0))
set_option maxHeartbeats 4000000 in
set_option maxRecDepth 100000 in
theorem c_X9_hourCount (l : Launch) (hlf : l.stackTraces = false) (G : GG) (qh0 : Nat) (q_snapshot : Nat) (q_history : Nat) (q_program : Nat) (q_notice : Nat) (va : Nat → Nat) (q : McV) (v : StV) (x : Int32) : xrMet l yX9_hourCount cX9_hourCount 2 (some .int) 9 1 6 G (fl [[(qh0, .inr (11, [.ref (va 0), .ref q_snapshot, .int q.1, .ref q_history, .ref q_program, .ref q_notice, .int q.2.1, .int q.2.2]))], [((va 0), .inr (10, [.int v.1, .int v.2.1, .ref (va 1), .ref (va 6), .ref (va 10), .ref (va 13)]))], wDo G (va 1) (va 2) (va 3) (va 4) (va 5) v.2.2.1, wEx G (va 6) (va 7) (va 8) (va 9) v.2.2.2.1, wPe G (va 10) (va 11) (va 12) v.2.2.2.2.1, wAu G (va 13) (va 14) (va 15) (va 16) (va 17) (va 18) (va 19) v.2.2.2.2.2]) [.ref qh0, .int x] (some (.int ((f_X9_hourCount q v x).2))) ((f_X9_hourCount q v x).1 = "" ∧ True) (fun E => E = (f_X9_hourCount q v x).1 ∧ E ≠ "") := by
  refine xr_start (by decide +kernel) (Nat.le_of_ble_eq_true rfl) ?_
  intro p e s m below meth c hx hb hr hml hts hown hlk hxt hP hK hST ls hl
  have hS : va_S (fun _ => False) s.heap s.heap [] := va_S.rf
  have hown : s.vm.findClass RX9 = some m.cls := hown
  have hl : lv_has ls 2 [(0, .ref qh0), (1, .int x)] := hl
  have hF : f_X9_hourCount q v x = (if (f_X9_requireDoor q v x) = "" then ("", (f_X2_countHours v.2.2.1 x)) else ((f_X9_requireDoor q v x), 0)) := rfl
  refine lv_aload_n hx hb dX9_hourCount_0 rfl (lv_at hl 0 rfl) ?_
  refine lv_iload_n hx hb dX9_hourCount_1 rfl (lv_at hl 1 rfl) ?_
  refine xr_V (own := RX9) (v := none) (st1 := []) (As := [.int x]) (rest := []) (c_X9_requireDoor l hlf G qh0 q_snapshot q_history q_program q_notice va q v x) ⟨hx, hb, hml, hown, hts⟩ g_X9_73 hdv_X9_requireDoor hK hST hS hP [0, 1, 2, 3, 4, 5, 6, 7, 8, 9, 10, 11, 12, 13, 14, 15, 16, 17, 18, 19, 20] rfl (k0 := 0) rfl rfl rfl ⟨Nat.le_of_ble_eq_true rfl, Nat.le_of_ble_eq_true rfl⟩ ⟨Nat.le_of_ble_eq_true rfl, Nat.le_of_ble_eq_true rfl⟩ rfl hl.1 rfl (Nat.le_of_ble_eq_true rfl) dX9_hourCount_2 rfl (fun E ce q9 H1 hE h1 h2 h3 h4 h5 => xr_out hxt hlk h3 h4 h5 h1 h2 rfl ⟨hE.1.trans (congrArg Prod.fst (hF.trans (if_neg (fun e => hE.2 (hE.1.trans e))))).symm, hE.2⟩ (Nat.le_of_ble_eq_true rfl) (Nat.le_of_ble_eq_true rfl)) (fun b_1 => ?_)
  have hE := b_1.1
  have b_1 := b_1.2
  have hF := hF.trans (if_pos hE)
  refine lv_aload_n hx hb dX9_hourCount_5 rfl (lv_at hl 0 rfl) ?_
  refine va_get (D := G.1) (ci := 11) (v := .ref (va 0)) (C := RX9) (T := TX9) (N := 8) hx hb hts uws_X9 hown hK hP 0 rfl rfl 0 (by decide) (hts _ u_1097) (fun _ h9 => h9) rfl dX9_hourCount_6 ?_
  refine va_get (D := G.1) (ci := 10) (v := .ref (va 1)) (C := RX8) (T := TX8) (N := 6) hx hb hts uws_X8 hown hK hP 1 rfl rfl 2 (by decide) (hts _ u_1028) (fun _ h9 => h9) rfl dX9_hourCount_9 ?_
  refine lv_iload_n hx hb dX9_hourCount_12 rfl (lv_at hl 1 rfl) ?_
  refine r_V (own := RX9) (v := (some (.int (f_X2_countHours v.2.2.1 x)))) (st1 := [.int (f_X2_countHours v.2.2.1 x)]) (As := [.int x]) (rest := []) (c_X2_countHours l G (va 1) (va 2) (va 3) (va 4) (va 5) v.2.2.1 x) ⟨hx, hb, hml, hown, hts⟩ g_X9_129 hdv_X2_countHours hK hST hS hP [2, 3, 4, 5, 6] rfl (k0 := 0) rfl rfl rfl ⟨Nat.le_of_ble_eq_true rfl, Nat.le_of_ble_eq_true rfl⟩ ⟨Nat.le_of_ble_eq_true rfl, Nat.le_of_ble_eq_true rfl⟩ rfl hl.1 rfl (Nat.le_of_ble_eq_true rfl) dX9_hourCount_13 rfl (fun b_2 => ?_)
  exact x_retI hx hb hr hlk rfl (by rw [hF]) ⟨congrArg Prod.fst hF, trivial⟩ (Nat.le_of_ble_eq_true rfl) (Nat.le_of_ble_eq_true rfl) dX9_hourCount_16
theorem dX9_exceptionDoor_0 : decode cX9_exceptionDoor 0 = .ok (.aload_n 0, 1) := by decide +kernel
theorem dX9_exceptionDoor_1 : decode cX9_exceptionDoor 1 = .ok (.getfield 10, 3) := by decide +kernel
theorem dX9_exceptionDoor_4 : decode cX9_exceptionDoor 4 = .ok (.getfield 92, 3) := by decide +kernel
theorem dX9_exceptionDoor_7 : decode cX9_exceptionDoor 7 = .ok (.iload_n 1, 1) := by decide +kernel
theorem dX9_exceptionDoor_8 : decode cX9_exceptionDoor 8 = .ok (.invokevirtual 137, 3) := by decide +kernel
theorem u_1200 : Cond.methodLink RX9 137 yX1_holds ∈ UW := uw 1200 (by decide +kernel) rfl
theorem g_X9_137 : GoodIn UW (wsV RX9 137 RX1 yX1_holds (wsU yX1_holds cX1_holds 2 (some .boolean))) := gV u_1200 u_529 u_530 u_24 u_531
theorem dX9_exceptionDoor_11 : decode cX9_exceptionDoor 11 = .ok (.invokestatic 141, 3) := by decide +kernel
theorem u_850 : Cond.methodLink RX9 141 yX9_requireElement ∈ UW := uw 850 (by decide +kernel) rfl
theorem u_851 : Cond.static yX9_requireElement ∈ UW := uw 851 (by decide +kernel) rfl
theorem u_852 : Cond.code yX9_requireElement cX9_requireElement 1 none ∈ UW := uw 852 (by decide +kernel) rfl
theorem g_X9_141 : GoodIn UW (va_wsS RX9 141 yX9_requireElement (wsU yX9_requireElement cX9_requireElement 1 none)) := gS u_850 u_851 u_21 u_852
theorem hds_X9_requireElement : yX9_requireElement.cls ≠ "java/lang/invoke/MethodHandle" ∧ yX9_requireElement.cls ≠ "java/lang/invoke/VarHandle" ∧ (parseMethodDescriptor yX9_requireElement.desc).map (fun d => d.parameters.length) = some 1 := by decide +kernel
theorem dX9_exceptionDoor_14 : decode cX9_exceptionDoor 14 = .ok (.aload_n 0, 1) := by decide +kernel
theorem dX9_exceptionDoor_15 : decode cX9_exceptionDoor 15 = .ok (.getfield 10, 3) := by decide +kernel
theorem dX9_exceptionDoor_18 : decode cX9_exceptionDoor 18 = .ok (.getfield 92, 3) := by decide +kernel
theorem dX9_exceptionDoor_21 : decode cX9_exceptionDoor 21 = .ok (.iload_n 1, 1) := by decide +kernel
theorem dX9_exceptionDoor_22 : decode cX9_exceptionDoor 22 = .ok (.invokevirtual 145, 3) := by decide +kernel
theorem u_1201 : Cond.methodLink RX9 145 yX1_doorAt ∈ UW := uw 1201 (by decide +kernel) rfl
theorem u_1202 : Cond.instanceMethod yX1_doorAt ∈ UW := uw 1202 (by decide +kernel) rfl
theorem u_1203 : Cond.selects RX1 yX1_doorAt yX1_doorAt ∈ UW := uw 1203 (by decide +kernel) rfl
theorem u_1204 : Cond.code yX1_doorAt cX1_doorAt 2 (some .int) ∈ UW := uw 1204 (by decide +kernel) rfl
theorem g_X9_145 : GoodIn UW (wsV RX9 145 RX1 yX1_doorAt (wsU yX1_doorAt cX1_doorAt 2 (some .int))) := gV u_1201 u_1202 u_1203 u_24 u_1204
theorem hdv_X1_doorAt : yX1_doorAt.cls = RX1 ∧ yX1_doorAt.cls ≠ "java/lang/invoke/MethodHandle" ∧ yX1_doorAt.cls ≠ "java/lang/invoke/VarHandle" ∧ (parseMethodDescriptor yX1_doorAt.desc).map (fun d => d.parameters.length) = some 1 := by decide +kernel
theorem dX9_exceptionDoor_25 : decode cX9_exceptionDoor 25 = .ok (.ireturn, 1) := by decide +kernel
def f_X9_exceptionDoor (q : McV) (v : StV) (x : Int32) : String × Int32 := (if (f_X9_requireElement (f_X1_holds v.2.2.2.1 x)) = "" then ("", (f_X1_doorAt v.2.2.2.1 x)) else ((f_X9_requireElement (f_X1_holds v.2.2.2.1 x)), 0))
set_option maxHeartbeats 4000000 in
set_option maxRecDepth 100000 in
theorem c_X9_exceptionDoor (l : Launch) (hlf : l.stackTraces = false) (G : GG) (qh0 : Nat) (q_snapshot : Nat) (q_history : Nat) (q_program : Nat) (q_notice : Nat) (va : Nat → Nat) (q : McV) (v : StV) (x : Int32) : xrMet l yX9_exceptionDoor cX9_exceptionDoor 2 (some .int) 9 1 6 G (fl [[(qh0, .inr (11, [.ref (va 0), .ref q_snapshot, .int q.1, .ref q_history, .ref q_program, .ref q_notice, .int q.2.1, .int q.2.2]))], [((va 0), .inr (10, [.int v.1, .int v.2.1, .ref (va 1), .ref (va 6), .ref (va 10), .ref (va 13)]))], wDo G (va 1) (va 2) (va 3) (va 4) (va 5) v.2.2.1, wEx G (va 6) (va 7) (va 8) (va 9) v.2.2.2.1, wPe G (va 10) (va 11) (va 12) v.2.2.2.2.1, wAu G (va 13) (va 14) (va 15) (va 16) (va 17) (va 18) (va 19) v.2.2.2.2.2]) [.ref qh0, .int x] (some (.int ((f_X9_exceptionDoor q v x).2))) ((f_X9_exceptionDoor q v x).1 = "" ∧ True) (fun E => E = (f_X9_exceptionDoor q v x).1 ∧ E ≠ "") := by
  refine xr_start (by decide +kernel) (Nat.le_of_ble_eq_true rfl) ?_
  intro p e s m below meth c hx hb hr hml hts hown hlk hxt hP hK hST ls hl
  have hS : va_S (fun _ => False) s.heap s.heap [] := va_S.rf
  have hown : s.vm.findClass RX9 = some m.cls := hown
  have hl : lv_has ls 2 [(0, .ref qh0), (1, .int x)] := hl
  have hF : f_X9_exceptionDoor q v x = (if (f_X9_requireElement (f_X1_holds v.2.2.2.1 x)) = "" then ("", (f_X1_doorAt v.2.2.2.1 x)) else ((f_X9_requireElement (f_X1_holds v.2.2.2.1 x)), 0)) := rfl
  refine lv_aload_n hx hb dX9_exceptionDoor_0 rfl (lv_at hl 0 rfl) ?_
  refine va_get (D := G.1) (ci := 11) (v := .ref (va 0)) (C := RX9) (T := TX9) (N := 8) hx hb hts uws_X9 hown hK hP 0 rfl rfl 0 (by decide) (hts _ u_1097) (fun _ h9 => h9) rfl dX9_exceptionDoor_1 ?_
  refine va_get (D := G.1) (ci := 10) (v := .ref (va 6)) (C := RX8) (T := TX8) (N := 6) hx hb hts uws_X8 hown hK hP 1 rfl rfl 3 (by decide) (hts _ u_1030) (fun _ h9 => h9) rfl dX9_exceptionDoor_4 ?_
  refine lv_iload_n hx hb dX9_exceptionDoor_7 rfl (lv_at hl 1 rfl) ?_
  refine r_V (own := RX9) (v := (some (.int (f_X1_holds v.2.2.2.1 x)))) (st1 := [.int (f_X1_holds v.2.2.2.1 x)]) (As := [.int x]) (rest := []) (c_X1_holds l G (va 6) (va 7) (va 8) (va 9) v.2.2.2.1 x) ⟨hx, hb, hml, hown, hts⟩ g_X9_137 hdv_X1_holds hK hST hS hP [7, 8, 9, 10] rfl (k0 := 0) rfl rfl rfl ⟨Nat.le_of_ble_eq_true rfl, Nat.le_of_ble_eq_true rfl⟩ ⟨Nat.le_of_ble_eq_true rfl, Nat.le_of_ble_eq_true rfl⟩ rfl hl.1 rfl (Nat.le_of_ble_eq_true rfl) dX9_exceptionDoor_8 rfl (fun b_1 => ?_)
  refine xr_S (own := RX9) (v := none) (st1 := []) (As := [.int (f_X1_holds v.2.2.2.1 x)]) (rest := []) (c_X9_requireElement l hlf G (f_X1_holds v.2.2.2.1 x)) ⟨hx, hb, hml, hown, hts⟩ g_X9_141 hds_X9_requireElement hK hST hS hP [] rfl ⟨Nat.le_of_ble_eq_true rfl, Nat.le_of_ble_eq_true rfl⟩ ⟨Nat.le_of_ble_eq_true rfl, Nat.le_of_ble_eq_true rfl⟩ rfl hl.1 rfl (Nat.le_of_ble_eq_true rfl) dX9_exceptionDoor_11 rfl (fun E ce q9 H1 hE h1 h2 h3 h4 h5 => xr_out hxt hlk h3 h4 h5 h1 h2 rfl ⟨hE.1.trans (congrArg Prod.fst (hF.trans (if_neg (fun e => hE.2 (hE.1.trans e))))).symm, hE.2⟩ (Nat.le_of_ble_eq_true rfl) (Nat.le_of_ble_eq_true rfl)) (fun b_2 => ?_)
  have hE := b_2.1
  have b_2 := b_2.2
  have hF := hF.trans (if_pos hE)
  refine lv_aload_n hx hb dX9_exceptionDoor_14 rfl (lv_at hl 0 rfl) ?_
  refine va_get (D := G.1) (ci := 11) (v := .ref (va 0)) (C := RX9) (T := TX9) (N := 8) hx hb hts uws_X9 hown hK hP 0 rfl rfl 0 (by decide) (hts _ u_1097) (fun _ h9 => h9) rfl dX9_exceptionDoor_15 ?_
  refine va_get (D := G.1) (ci := 10) (v := .ref (va 6)) (C := RX8) (T := TX8) (N := 6) hx hb hts uws_X8 hown hK hP 1 rfl rfl 3 (by decide) (hts _ u_1030) (fun _ h9 => h9) rfl dX9_exceptionDoor_18 ?_
  refine lv_iload_n hx hb dX9_exceptionDoor_21 rfl (lv_at hl 1 rfl) ?_
  refine r_V (own := RX9) (v := (some (.int (f_X1_doorAt v.2.2.2.1 x)))) (st1 := [.int (f_X1_doorAt v.2.2.2.1 x)]) (As := [.int x]) (rest := []) (c_X1_doorAt l G (va 6) (va 7) (va 8) (va 9) v.2.2.2.1 x) ⟨hx, hb, hml, hown, hts⟩ g_X9_145 hdv_X1_doorAt hK hST hS hP [7, 8, 9, 10] rfl (k0 := 0) rfl rfl rfl ⟨Nat.le_of_ble_eq_true rfl, Nat.le_of_ble_eq_true rfl⟩ ⟨Nat.le_of_ble_eq_true rfl, Nat.le_of_ble_eq_true rfl⟩ rfl hl.1 rfl (Nat.le_of_ble_eq_true rfl) dX9_exceptionDoor_22 rfl (fun b_3 => ?_)
  exact x_retI hx hb hr hlk rfl (by rw [hF]) ⟨congrArg Prod.fst hF, trivial⟩ (Nat.le_of_ble_eq_true rfl) (Nat.le_of_ble_eq_true rfl) dX9_exceptionDoor_25
theorem dX9_exceptionDay_0 : decode cX9_exceptionDay 0 = .ok (.aload_n 0, 1) := by decide +kernel
theorem dX9_exceptionDay_1 : decode cX9_exceptionDay 1 = .ok (.getfield 10, 3) := by decide +kernel
theorem dX9_exceptionDay_4 : decode cX9_exceptionDay 4 = .ok (.getfield 92, 3) := by decide +kernel
theorem dX9_exceptionDay_7 : decode cX9_exceptionDay 7 = .ok (.iload_n 1, 1) := by decide +kernel
theorem dX9_exceptionDay_8 : decode cX9_exceptionDay 8 = .ok (.invokevirtual 137, 3) := by decide +kernel
theorem dX9_exceptionDay_11 : decode cX9_exceptionDay 11 = .ok (.invokestatic 141, 3) := by decide +kernel
theorem dX9_exceptionDay_14 : decode cX9_exceptionDay 14 = .ok (.aload_n 0, 1) := by decide +kernel
theorem dX9_exceptionDay_15 : decode cX9_exceptionDay 15 = .ok (.getfield 10, 3) := by decide +kernel
theorem dX9_exceptionDay_18 : decode cX9_exceptionDay 18 = .ok (.getfield 92, 3) := by decide +kernel
theorem dX9_exceptionDay_21 : decode cX9_exceptionDay 21 = .ok (.iload_n 1, 1) := by decide +kernel
theorem dX9_exceptionDay_22 : decode cX9_exceptionDay 22 = .ok (.invokevirtual 148, 3) := by decide +kernel
theorem u_1212 : Cond.methodLink RX9 148 yX1_dayAt ∈ UW := uw 1212 (by decide +kernel) rfl
theorem u_1213 : Cond.instanceMethod yX1_dayAt ∈ UW := uw 1213 (by decide +kernel) rfl
theorem u_1214 : Cond.selects RX1 yX1_dayAt yX1_dayAt ∈ UW := uw 1214 (by decide +kernel) rfl
theorem u_1215 : Cond.code yX1_dayAt cX1_dayAt 2 (some .int) ∈ UW := uw 1215 (by decide +kernel) rfl
theorem g_X9_148 : GoodIn UW (wsV RX9 148 RX1 yX1_dayAt (wsU yX1_dayAt cX1_dayAt 2 (some .int))) := gV u_1212 u_1213 u_1214 u_24 u_1215
theorem hdv_X1_dayAt : yX1_dayAt.cls = RX1 ∧ yX1_dayAt.cls ≠ "java/lang/invoke/MethodHandle" ∧ yX1_dayAt.cls ≠ "java/lang/invoke/VarHandle" ∧ (parseMethodDescriptor yX1_dayAt.desc).map (fun d => d.parameters.length) = some 1 := by decide +kernel
theorem dX9_exceptionDay_25 : decode cX9_exceptionDay 25 = .ok (.ireturn, 1) := by decide +kernel
def f_X9_exceptionDay (q : McV) (v : StV) (x : Int32) : String × Int32 := (if (f_X9_requireElement (f_X1_holds v.2.2.2.1 x)) = "" then ("", (f_X1_dayAt v.2.2.2.1 x)) else ((f_X9_requireElement (f_X1_holds v.2.2.2.1 x)), 0))
set_option maxHeartbeats 4000000 in
set_option maxRecDepth 100000 in
theorem c_X9_exceptionDay (l : Launch) (hlf : l.stackTraces = false) (G : GG) (qh0 : Nat) (q_snapshot : Nat) (q_history : Nat) (q_program : Nat) (q_notice : Nat) (va : Nat → Nat) (q : McV) (v : StV) (x : Int32) : xrMet l yX9_exceptionDay cX9_exceptionDay 2 (some .int) 9 1 6 G (fl [[(qh0, .inr (11, [.ref (va 0), .ref q_snapshot, .int q.1, .ref q_history, .ref q_program, .ref q_notice, .int q.2.1, .int q.2.2]))], [((va 0), .inr (10, [.int v.1, .int v.2.1, .ref (va 1), .ref (va 6), .ref (va 10), .ref (va 13)]))], wDo G (va 1) (va 2) (va 3) (va 4) (va 5) v.2.2.1, wEx G (va 6) (va 7) (va 8) (va 9) v.2.2.2.1, wPe G (va 10) (va 11) (va 12) v.2.2.2.2.1, wAu G (va 13) (va 14) (va 15) (va 16) (va 17) (va 18) (va 19) v.2.2.2.2.2]) [.ref qh0, .int x] (some (.int ((f_X9_exceptionDay q v x).2))) ((f_X9_exceptionDay q v x).1 = "" ∧ True) (fun E => E = (f_X9_exceptionDay q v x).1 ∧ E ≠ "") := by
  refine xr_start (by decide +kernel) (Nat.le_of_ble_eq_true rfl) ?_
  intro p e s m below meth c hx hb hr hml hts hown hlk hxt hP hK hST ls hl
  have hS : va_S (fun _ => False) s.heap s.heap [] := va_S.rf
  have hown : s.vm.findClass RX9 = some m.cls := hown
  have hl : lv_has ls 2 [(0, .ref qh0), (1, .int x)] := hl
  have hF : f_X9_exceptionDay q v x = (if (f_X9_requireElement (f_X1_holds v.2.2.2.1 x)) = "" then ("", (f_X1_dayAt v.2.2.2.1 x)) else ((f_X9_requireElement (f_X1_holds v.2.2.2.1 x)), 0)) := rfl
  refine lv_aload_n hx hb dX9_exceptionDay_0 rfl (lv_at hl 0 rfl) ?_
  refine va_get (D := G.1) (ci := 11) (v := .ref (va 0)) (C := RX9) (T := TX9) (N := 8) hx hb hts uws_X9 hown hK hP 0 rfl rfl 0 (by decide) (hts _ u_1097) (fun _ h9 => h9) rfl dX9_exceptionDay_1 ?_
  refine va_get (D := G.1) (ci := 10) (v := .ref (va 6)) (C := RX8) (T := TX8) (N := 6) hx hb hts uws_X8 hown hK hP 1 rfl rfl 3 (by decide) (hts _ u_1030) (fun _ h9 => h9) rfl dX9_exceptionDay_4 ?_
  refine lv_iload_n hx hb dX9_exceptionDay_7 rfl (lv_at hl 1 rfl) ?_
  refine r_V (own := RX9) (v := (some (.int (f_X1_holds v.2.2.2.1 x)))) (st1 := [.int (f_X1_holds v.2.2.2.1 x)]) (As := [.int x]) (rest := []) (c_X1_holds l G (va 6) (va 7) (va 8) (va 9) v.2.2.2.1 x) ⟨hx, hb, hml, hown, hts⟩ g_X9_137 hdv_X1_holds hK hST hS hP [7, 8, 9, 10] rfl (k0 := 0) rfl rfl rfl ⟨Nat.le_of_ble_eq_true rfl, Nat.le_of_ble_eq_true rfl⟩ ⟨Nat.le_of_ble_eq_true rfl, Nat.le_of_ble_eq_true rfl⟩ rfl hl.1 rfl (Nat.le_of_ble_eq_true rfl) dX9_exceptionDay_8 rfl (fun b_1 => ?_)
  refine xr_S (own := RX9) (v := none) (st1 := []) (As := [.int (f_X1_holds v.2.2.2.1 x)]) (rest := []) (c_X9_requireElement l hlf G (f_X1_holds v.2.2.2.1 x)) ⟨hx, hb, hml, hown, hts⟩ g_X9_141 hds_X9_requireElement hK hST hS hP [] rfl ⟨Nat.le_of_ble_eq_true rfl, Nat.le_of_ble_eq_true rfl⟩ ⟨Nat.le_of_ble_eq_true rfl, Nat.le_of_ble_eq_true rfl⟩ rfl hl.1 rfl (Nat.le_of_ble_eq_true rfl) dX9_exceptionDay_11 rfl (fun E ce q9 H1 hE h1 h2 h3 h4 h5 => xr_out hxt hlk h3 h4 h5 h1 h2 rfl ⟨hE.1.trans (congrArg Prod.fst (hF.trans (if_neg (fun e => hE.2 (hE.1.trans e))))).symm, hE.2⟩ (Nat.le_of_ble_eq_true rfl) (Nat.le_of_ble_eq_true rfl)) (fun b_2 => ?_)
  have hE := b_2.1
  have b_2 := b_2.2
  have hF := hF.trans (if_pos hE)
  refine lv_aload_n hx hb dX9_exceptionDay_14 rfl (lv_at hl 0 rfl) ?_
  refine va_get (D := G.1) (ci := 11) (v := .ref (va 0)) (C := RX9) (T := TX9) (N := 8) hx hb hts uws_X9 hown hK hP 0 rfl rfl 0 (by decide) (hts _ u_1097) (fun _ h9 => h9) rfl dX9_exceptionDay_15 ?_
  refine va_get (D := G.1) (ci := 10) (v := .ref (va 6)) (C := RX8) (T := TX8) (N := 6) hx hb hts uws_X8 hown hK hP 1 rfl rfl 3 (by decide) (hts _ u_1030) (fun _ h9 => h9) rfl dX9_exceptionDay_18 ?_
  refine lv_iload_n hx hb dX9_exceptionDay_21 rfl (lv_at hl 1 rfl) ?_
  refine r_V (own := RX9) (v := (some (.int (f_X1_dayAt v.2.2.2.1 x)))) (st1 := [.int (f_X1_dayAt v.2.2.2.1 x)]) (As := [.int x]) (rest := []) (c_X1_dayAt l G (va 6) (va 7) (va 8) (va 9) v.2.2.2.1 x) ⟨hx, hb, hml, hown, hts⟩ g_X9_148 hdv_X1_dayAt hK hST hS hP [7, 8, 9, 10] rfl (k0 := 0) rfl rfl rfl ⟨Nat.le_of_ble_eq_true rfl, Nat.le_of_ble_eq_true rfl⟩ ⟨Nat.le_of_ble_eq_true rfl, Nat.le_of_ble_eq_true rfl⟩ rfl hl.1 rfl (Nat.le_of_ble_eq_true rfl) dX9_exceptionDay_22 rfl (fun b_3 => ?_)
  exact x_retI hx hb hr hlk rfl (by rw [hF]) ⟨congrArg Prod.fst hF, trivial⟩ (Nat.le_of_ble_eq_true rfl) (Nat.le_of_ble_eq_true rfl) dX9_exceptionDay_25
theorem dX9_doorsOfRing_0 : decode cX9_doorsOfRing 0 = .ok (.aload_n 0, 1) := by decide +kernel
theorem dX9_doorsOfRing_1 : decode cX9_doorsOfRing 1 = .ok (.iload_n 1, 1) := by decide +kernel
theorem dX9_doorsOfRing_2 : decode cX9_doorsOfRing 2 = .ok (.invokevirtual 189, 3) := by decide +kernel
theorem u_790 : Cond.methodLink RX9 189 yX9_requirePerson ∈ UW := uw 790 (by decide +kernel) rfl
theorem u_792 : Cond.instanceMethod yX9_requirePerson ∈ UW := uw 792 (by decide +kernel) rfl
theorem u_6 : Cond.selects RX9 yX9_requirePerson yX9_requirePerson ∈ UW := uw 6 (by decide +kernel) rfl
theorem u_793 : Cond.code yX9_requirePerson cX9_requirePerson 2 none ∈ UW := uw 793 (by decide +kernel) rfl
theorem g_X9_189 : GoodIn UW (wsV RX9 189 RX9 yX9_requirePerson (wsU yX9_requirePerson cX9_requirePerson 2 none)) := gV u_790 u_792 u_6 u_21 u_793
theorem hdv_X9_requirePerson : yX9_requirePerson.cls = RX9 ∧ yX9_requirePerson.cls ≠ "java/lang/invoke/MethodHandle" ∧ yX9_requirePerson.cls ≠ "java/lang/invoke/VarHandle" ∧ (parseMethodDescriptor yX9_requirePerson.desc).map (fun d => d.parameters.length) = some 1 := by decide +kernel
theorem dX9_doorsOfRing_5 : decode cX9_doorsOfRing 5 = .ok (.aload_n 0, 1) := by decide +kernel
theorem dX9_doorsOfRing_6 : decode cX9_doorsOfRing 6 = .ok (.getfield 10, 3) := by decide +kernel
theorem dX9_doorsOfRing_9 : decode cX9_doorsOfRing 9 = .ok (.iload_n 1, 1) := by decide +kernel
theorem dX9_doorsOfRing_10 : decode cX9_doorsOfRing 10 = .ok (.invokevirtual 198, 3) := by decide +kernel
theorem u_1524 : Cond.methodLink RX9 198 yX8_countDoorsOfRing ∈ UW := uw 1524 (by decide +kernel) rfl
theorem u_1525 : Cond.instanceMethod yX8_countDoorsOfRing ∈ UW := uw 1525 (by decide +kernel) rfl
theorem u_1526 : Cond.selects RX8 yX8_countDoorsOfRing yX8_countDoorsOfRing ∈ UW := uw 1526 (by decide +kernel) rfl
theorem u_1527 : Cond.code yX8_countDoorsOfRing cX8_countDoorsOfRing 4 (some .int) ∈ UW := uw 1527 (by decide +kernel) rfl
theorem g_X9_198 : GoodIn UW (wsV RX9 198 RX8 yX8_countDoorsOfRing (wsU yX8_countDoorsOfRing cX8_countDoorsOfRing 4 (some .int))) := gV u_1524 u_1525 u_1526 u_22 u_1527
theorem hdv_X8_countDoorsOfRing : yX8_countDoorsOfRing.cls = RX8 ∧ yX8_countDoorsOfRing.cls ≠ "java/lang/invoke/MethodHandle" ∧ yX8_countDoorsOfRing.cls ≠ "java/lang/invoke/VarHandle" ∧ (parseMethodDescriptor yX8_countDoorsOfRing.desc).map (fun d => d.parameters.length) = some 1 := by decide +kernel
theorem dX9_doorsOfRing_13 : decode cX9_doorsOfRing 13 = .ok (.ireturn, 1) := by decide +kernel
def f_X9_doorsOfRing (q : McV) (v : StV) (x : Int32) : String × Int32 := (if (f_X9_requirePerson q v x) = "" then ("", (f_X8_countDoorsOfRing v x)) else ((f_X9_requirePerson q v x), 0))
set_option maxHeartbeats 4000000 in
set_option maxRecDepth 100000 in
theorem c_X9_doorsOfRing (l : Launch) (hlf : l.stackTraces = false) (G : GG) (qh0 : Nat) (q_snapshot : Nat) (q_history : Nat) (q_program : Nat) (q_notice : Nat) (va : Nat → Nat) (q : McV) (v : StV) (x : Int32) : xrMet l yX9_doorsOfRing cX9_doorsOfRing 2 (some .int) 9 1 6 G (fl [[(qh0, .inr (11, [.ref (va 0), .ref q_snapshot, .int q.1, .ref q_history, .ref q_program, .ref q_notice, .int q.2.1, .int q.2.2]))], [((va 0), .inr (10, [.int v.1, .int v.2.1, .ref (va 1), .ref (va 6), .ref (va 10), .ref (va 13)]))], wDo G (va 1) (va 2) (va 3) (va 4) (va 5) v.2.2.1, wEx G (va 6) (va 7) (va 8) (va 9) v.2.2.2.1, wPe G (va 10) (va 11) (va 12) v.2.2.2.2.1, wAu G (va 13) (va 14) (va 15) (va 16) (va 17) (va 18) (va 19) v.2.2.2.2.2]) [.ref qh0, .int x] (some (.int ((f_X9_doorsOfRing q v x).2))) ((f_X9_doorsOfRing q v x).1 = "" ∧ True) (fun E => E = (f_X9_doorsOfRing q v x).1 ∧ E ≠ "") := by
  refine xr_start (by decide +kernel) (Nat.le_of_ble_eq_true rfl) ?_
  intro p e s m below meth c hx hb hr hml hts hown hlk hxt hP hK hST ls hl
  have hS : va_S (fun _ => False) s.heap s.heap [] := va_S.rf
  have hown : s.vm.findClass RX9 = some m.cls := hown
  have hl : lv_has ls 2 [(0, .ref qh0), (1, .int x)] := hl
  have hF : f_X9_doorsOfRing q v x = (if (f_X9_requirePerson q v x) = "" then ("", (f_X8_countDoorsOfRing v x)) else ((f_X9_requirePerson q v x), 0)) := rfl
  refine lv_aload_n hx hb dX9_doorsOfRing_0 rfl (lv_at hl 0 rfl) ?_
  refine lv_iload_n hx hb dX9_doorsOfRing_1 rfl (lv_at hl 1 rfl) ?_
  refine xr_V (own := RX9) (v := none) (st1 := []) (As := [.int x]) (rest := []) (c_X9_requirePerson l hlf G qh0 q_snapshot q_history q_program q_notice va q v x) ⟨hx, hb, hml, hown, hts⟩ g_X9_189 hdv_X9_requirePerson hK hST hS hP [0, 1, 2, 3, 4, 5, 6, 7, 8, 9, 10, 11, 12, 13, 14, 15, 16, 17, 18, 19, 20] rfl (k0 := 0) rfl rfl rfl ⟨Nat.le_of_ble_eq_true rfl, Nat.le_of_ble_eq_true rfl⟩ ⟨Nat.le_of_ble_eq_true rfl, Nat.le_of_ble_eq_true rfl⟩ rfl hl.1 rfl (Nat.le_of_ble_eq_true rfl) dX9_doorsOfRing_2 rfl (fun E ce q9 H1 hE h1 h2 h3 h4 h5 => xr_out hxt hlk h3 h4 h5 h1 h2 rfl ⟨hE.1.trans (congrArg Prod.fst (hF.trans (if_neg (fun e => hE.2 (hE.1.trans e))))).symm, hE.2⟩ (Nat.le_of_ble_eq_true rfl) (Nat.le_of_ble_eq_true rfl)) (fun b_1 => ?_)
  have hE := b_1.1
  have b_1 := b_1.2
  have hF := hF.trans (if_pos hE)
  refine lv_aload_n hx hb dX9_doorsOfRing_5 rfl (lv_at hl 0 rfl) ?_
  refine va_get (D := G.1) (ci := 11) (v := .ref (va 0)) (C := RX9) (T := TX9) (N := 8) hx hb hts uws_X9 hown hK hP 0 rfl rfl 0 (by decide) (hts _ u_1097) (fun _ h9 => h9) rfl dX9_doorsOfRing_6 ?_
  refine lv_iload_n hx hb dX9_doorsOfRing_9 rfl (lv_at hl 1 rfl) ?_
  refine r_V (own := RX9) (v := (some (.int (f_X8_countDoorsOfRing v x)))) (st1 := [.int (f_X8_countDoorsOfRing v x)]) (As := [.int x]) (rest := []) (c_X8_countDoorsOfRing l G va v x) ⟨hx, hb, hml, hown, hts⟩ g_X9_198 hdv_X8_countDoorsOfRing hK hST hS hP [1, 2, 3, 4, 5, 6, 7, 8, 9, 10, 11, 12, 13, 14, 15, 16, 17, 18, 19, 20] rfl (k0 := 0) rfl rfl rfl ⟨Nat.le_of_ble_eq_true rfl, Nat.le_of_ble_eq_true rfl⟩ ⟨Nat.le_of_ble_eq_true rfl, Nat.le_of_ble_eq_true rfl⟩ rfl hl.1 rfl (Nat.le_of_ble_eq_true rfl) dX9_doorsOfRing_10 rfl (fun b_2 => ?_)
  exact x_retI hx hb hr hlk rfl (by rw [hF]) ⟨congrArg Prod.fst hF, trivial⟩ (Nat.le_of_ble_eq_true rfl) (Nat.le_of_ble_eq_true rfl) dX9_doorsOfRing_13
theorem dX9_personByEntries_0 : decode cX9_personByEntries 0 = .ok (.aload_n 0, 1) := by decide +kernel
theorem dX9_personByEntries_1 : decode cX9_personByEntries 1 = .ok (.iload_n 1, 1) := by decide +kernel
theorem dX9_personByEntries_2 : decode cX9_personByEntries 2 = .ok (.invokevirtual 189, 3) := by decide +kernel
theorem dX9_personByEntries_5 : decode cX9_personByEntries 5 = .ok (.aload_n 0, 1) := by decide +kernel
theorem dX9_personByEntries_6 : decode cX9_personByEntries 6 = .ok (.getfield 10, 3) := by decide +kernel
theorem dX9_personByEntries_9 : decode cX9_personByEntries 9 = .ok (.getfield 151, 3) := by decide +kernel
theorem dX9_personByEntries_12 : decode cX9_personByEntries 12 = .ok (.iload_n 1, 1) := by decide +kernel
theorem dX9_personByEntries_13 : decode cX9_personByEntries 13 = .ok (.invokevirtual 201, 3) := by decide +kernel
theorem u_796 : Cond.methodLink RX9 201 yX5_personOfRank ∈ UW := uw 796 (by decide +kernel) rfl
theorem u_797 : Cond.instanceMethod yX5_personOfRank ∈ UW := uw 797 (by decide +kernel) rfl
theorem u_798 : Cond.selects RX5 yX5_personOfRank yX5_personOfRank ∈ UW := uw 798 (by decide +kernel) rfl
theorem u_799 : Cond.code yX5_personOfRank cX5_personOfRank 3 (some .int) ∈ UW := uw 799 (by decide +kernel) rfl
theorem g_X9_201 : GoodIn UW (wsV RX9 201 RX5 yX5_personOfRank (wsU yX5_personOfRank cX5_personOfRank 3 (some .int))) := gV u_796 u_797 u_798 u_25 u_799
theorem hdv_X5_personOfRank : yX5_personOfRank.cls = RX5 ∧ yX5_personOfRank.cls ≠ "java/lang/invoke/MethodHandle" ∧ yX5_personOfRank.cls ≠ "java/lang/invoke/VarHandle" ∧ (parseMethodDescriptor yX5_personOfRank.desc).map (fun d => d.parameters.length) = some 1 := by decide +kernel
theorem dX9_personByEntries_16 : decode cX9_personByEntries 16 = .ok (.ireturn, 1) := by decide +kernel
def f_X9_personByEntries (q : McV) (v : StV) (x : Int32) : String × Int32 := (if (f_X9_requirePerson q v x) = "" then ("", (f_X5_personOfRank v.2.2.2.2.1 x)) else ((f_X9_requirePerson q v x), 0))
set_option maxHeartbeats 4000000 in
set_option maxRecDepth 100000 in
theorem c_X9_personByEntries (l : Launch) (hlf : l.stackTraces = false) (G : GG) (qh0 : Nat) (q_snapshot : Nat) (q_history : Nat) (q_program : Nat) (q_notice : Nat) (va : Nat → Nat) (q : McV) (v : StV) (x : Int32) : xrMet l yX9_personByEntries cX9_personByEntries 2 (some .int) 9 1 6 G (fl [[(qh0, .inr (11, [.ref (va 0), .ref q_snapshot, .int q.1, .ref q_history, .ref q_program, .ref q_notice, .int q.2.1, .int q.2.2]))], [((va 0), .inr (10, [.int v.1, .int v.2.1, .ref (va 1), .ref (va 6), .ref (va 10), .ref (va 13)]))], wDo G (va 1) (va 2) (va 3) (va 4) (va 5) v.2.2.1, wEx G (va 6) (va 7) (va 8) (va 9) v.2.2.2.1, wPe G (va 10) (va 11) (va 12) v.2.2.2.2.1, wAu G (va 13) (va 14) (va 15) (va 16) (va 17) (va 18) (va 19) v.2.2.2.2.2]) [.ref qh0, .int x] (some (.int ((f_X9_personByEntries q v x).2))) ((f_X9_personByEntries q v x).1 = "" ∧ True) (fun E => E = (f_X9_personByEntries q v x).1 ∧ E ≠ "") := by
  refine xr_start (by decide +kernel) (Nat.le_of_ble_eq_true rfl) ?_
  intro p e s m below meth c hx hb hr hml hts hown hlk hxt hP hK hST ls hl
  have hS : va_S (fun _ => False) s.heap s.heap [] := va_S.rf
  have hown : s.vm.findClass RX9 = some m.cls := hown
  have hl : lv_has ls 2 [(0, .ref qh0), (1, .int x)] := hl
  have hF : f_X9_personByEntries q v x = (if (f_X9_requirePerson q v x) = "" then ("", (f_X5_personOfRank v.2.2.2.2.1 x)) else ((f_X9_requirePerson q v x), 0)) := rfl
  refine lv_aload_n hx hb dX9_personByEntries_0 rfl (lv_at hl 0 rfl) ?_
  refine lv_iload_n hx hb dX9_personByEntries_1 rfl (lv_at hl 1 rfl) ?_
  refine xr_V (own := RX9) (v := none) (st1 := []) (As := [.int x]) (rest := []) (c_X9_requirePerson l hlf G qh0 q_snapshot q_history q_program q_notice va q v x) ⟨hx, hb, hml, hown, hts⟩ g_X9_189 hdv_X9_requirePerson hK hST hS hP [0, 1, 2, 3, 4, 5, 6, 7, 8, 9, 10, 11, 12, 13, 14, 15, 16, 17, 18, 19, 20] rfl (k0 := 0) rfl rfl rfl ⟨Nat.le_of_ble_eq_true rfl, Nat.le_of_ble_eq_true rfl⟩ ⟨Nat.le_of_ble_eq_true rfl, Nat.le_of_ble_eq_true rfl⟩ rfl hl.1 rfl (Nat.le_of_ble_eq_true rfl) dX9_personByEntries_2 rfl (fun E ce q9 H1 hE h1 h2 h3 h4 h5 => xr_out hxt hlk h3 h4 h5 h1 h2 rfl ⟨hE.1.trans (congrArg Prod.fst (hF.trans (if_neg (fun e => hE.2 (hE.1.trans e))))).symm, hE.2⟩ (Nat.le_of_ble_eq_true rfl) (Nat.le_of_ble_eq_true rfl)) (fun b_1 => ?_)
  have hE := b_1.1
  have b_1 := b_1.2
  have hF := hF.trans (if_pos hE)
  refine lv_aload_n hx hb dX9_personByEntries_5 rfl (lv_at hl 0 rfl) ?_
  refine va_get (D := G.1) (ci := 11) (v := .ref (va 0)) (C := RX9) (T := TX9) (N := 8) hx hb hts uws_X9 hown hK hP 0 rfl rfl 0 (by decide) (hts _ u_1097) (fun _ h9 => h9) rfl dX9_personByEntries_6 ?_
  refine va_get (D := G.1) (ci := 10) (v := .ref (va 10)) (C := RX8) (T := TX8) (N := 6) hx hb hts uws_X8 hown hK hP 1 rfl rfl 4 (by decide) (hts _ u_1032) (fun _ h9 => h9) rfl dX9_personByEntries_9 ?_
  refine lv_iload_n hx hb dX9_personByEntries_12 rfl (lv_at hl 1 rfl) ?_
  refine r_V (own := RX9) (v := (some (.int (f_X5_personOfRank v.2.2.2.2.1 x)))) (st1 := [.int (f_X5_personOfRank v.2.2.2.2.1 x)]) (As := [.int x]) (rest := []) (c_X5_personOfRank l G (va 10) (va 11) (va 12) v.2.2.2.2.1 x) ⟨hx, hb, hml, hown, hts⟩ g_X9_201 hdv_X5_personOfRank hK hST hS hP [11, 12, 13] rfl (k0 := 0) rfl rfl rfl ⟨Nat.le_of_ble_eq_true rfl, Nat.le_of_ble_eq_true rfl⟩ ⟨Nat.le_of_ble_eq_true rfl, Nat.le_of_ble_eq_true rfl⟩ rfl hl.1 rfl (Nat.le_of_ble_eq_true rfl) dX9_personByEntries_13 rfl (fun b_2 => ?_)
  exact x_retI hx hb hr hlk rfl (by rw [hF]) ⟨congrArg Prod.fst hF, trivial⟩ (Nat.le_of_ble_eq_true rfl) (Nat.le_of_ble_eq_true rfl) dX9_personByEntries_16
theorem dX9_entriesOf_0 : decode cX9_entriesOf 0 = .ok (.aload_n 0, 1) := by decide +kernel
theorem dX9_entriesOf_1 : decode cX9_entriesOf 1 = .ok (.iload_n 1, 1) := by decide +kernel
theorem dX9_entriesOf_2 : decode cX9_entriesOf 2 = .ok (.invokevirtual 189, 3) := by decide +kernel
theorem dX9_entriesOf_5 : decode cX9_entriesOf 5 = .ok (.aload_n 0, 1) := by decide +kernel
theorem dX9_entriesOf_6 : decode cX9_entriesOf 6 = .ok (.getfield 10, 3) := by decide +kernel
theorem dX9_entriesOf_9 : decode cX9_entriesOf 9 = .ok (.getfield 151, 3) := by decide +kernel
theorem dX9_entriesOf_12 : decode cX9_entriesOf 12 = .ok (.iload_n 1, 1) := by decide +kernel
theorem dX9_entriesOf_13 : decode cX9_entriesOf 13 = .ok (.invokevirtual 204, 3) := by decide +kernel
theorem u_1465 : Cond.methodLink RX9 204 yX5_entriesFor ∈ UW := uw 1465 (by decide +kernel) rfl
theorem u_1466 : Cond.instanceMethod yX5_entriesFor ∈ UW := uw 1466 (by decide +kernel) rfl
theorem u_1467 : Cond.selects RX5 yX5_entriesFor yX5_entriesFor ∈ UW := uw 1467 (by decide +kernel) rfl
theorem u_1468 : Cond.code yX5_entriesFor cX5_entriesFor 2 (some .int) ∈ UW := uw 1468 (by decide +kernel) rfl
theorem g_X9_204 : GoodIn UW (wsV RX9 204 RX5 yX5_entriesFor (wsU yX5_entriesFor cX5_entriesFor 2 (some .int))) := gV u_1465 u_1466 u_1467 u_25 u_1468
theorem hdv_X5_entriesFor : yX5_entriesFor.cls = RX5 ∧ yX5_entriesFor.cls ≠ "java/lang/invoke/MethodHandle" ∧ yX5_entriesFor.cls ≠ "java/lang/invoke/VarHandle" ∧ (parseMethodDescriptor yX5_entriesFor.desc).map (fun d => d.parameters.length) = some 1 := by decide +kernel
theorem dX9_entriesOf_16 : decode cX9_entriesOf 16 = .ok (.ireturn, 1) := by decide +kernel
def f_X9_entriesOf (q : McV) (v : StV) (x : Int32) : String × Int32 := (if (f_X9_requirePerson q v x) = "" then ("", (f_X5_entriesFor v.2.2.2.2.1 x)) else ((f_X9_requirePerson q v x), 0))
set_option maxHeartbeats 4000000 in
set_option maxRecDepth 100000 in
theorem c_X9_entriesOf (l : Launch) (hlf : l.stackTraces = false) (G : GG) (qh0 : Nat) (q_snapshot : Nat) (q_history : Nat) (q_program : Nat) (q_notice : Nat) (va : Nat → Nat) (q : McV) (v : StV) (x : Int32) : xrMet l yX9_entriesOf cX9_entriesOf 2 (some .int) 9 1 6 G (fl [[(qh0, .inr (11, [.ref (va 0), .ref q_snapshot, .int q.1, .ref q_history, .ref q_program, .ref q_notice, .int q.2.1, .int q.2.2]))], [((va 0), .inr (10, [.int v.1, .int v.2.1, .ref (va 1), .ref (va 6), .ref (va 10), .ref (va 13)]))], wDo G (va 1) (va 2) (va 3) (va 4) (va 5) v.2.2.1, wEx G (va 6) (va 7) (va 8) (va 9) v.2.2.2.1, wPe G (va 10) (va 11) (va 12) v.2.2.2.2.1, wAu G (va 13) (va 14) (va 15) (va 16) (va 17) (va 18) (va 19) v.2.2.2.2.2]) [.ref qh0, .int x] (some (.int ((f_X9_entriesOf q v x).2))) ((f_X9_entriesOf q v x).1 = "" ∧ True) (fun E => E = (f_X9_entriesOf q v x).1 ∧ E ≠ "") := by
  refine xr_start (by decide +kernel) (Nat.le_of_ble_eq_true rfl) ?_
  intro p e s m below meth c hx hb hr hml hts hown hlk hxt hP hK hST ls hl
  have hS : va_S (fun _ => False) s.heap s.heap [] := va_S.rf
  have hown : s.vm.findClass RX9 = some m.cls := hown
  have hl : lv_has ls 2 [(0, .ref qh0), (1, .int x)] := hl
  have hF : f_X9_entriesOf q v x = (if (f_X9_requirePerson q v x) = "" then ("", (f_X5_entriesFor v.2.2.2.2.1 x)) else ((f_X9_requirePerson q v x), 0)) := rfl
  refine lv_aload_n hx hb dX9_entriesOf_0 rfl (lv_at hl 0 rfl) ?_
  refine lv_iload_n hx hb dX9_entriesOf_1 rfl (lv_at hl 1 rfl) ?_
  refine xr_V (own := RX9) (v := none) (st1 := []) (As := [.int x]) (rest := []) (c_X9_requirePerson l hlf G qh0 q_snapshot q_history q_program q_notice va q v x) ⟨hx, hb, hml, hown, hts⟩ g_X9_189 hdv_X9_requirePerson hK hST hS hP [0, 1, 2, 3, 4, 5, 6, 7, 8, 9, 10, 11, 12, 13, 14, 15, 16, 17, 18, 19, 20] rfl (k0 := 0) rfl rfl rfl ⟨Nat.le_of_ble_eq_true rfl, Nat.le_of_ble_eq_true rfl⟩ ⟨Nat.le_of_ble_eq_true rfl, Nat.le_of_ble_eq_true rfl⟩ rfl hl.1 rfl (Nat.le_of_ble_eq_true rfl) dX9_entriesOf_2 rfl (fun E ce q9 H1 hE h1 h2 h3 h4 h5 => xr_out hxt hlk h3 h4 h5 h1 h2 rfl ⟨hE.1.trans (congrArg Prod.fst (hF.trans (if_neg (fun e => hE.2 (hE.1.trans e))))).symm, hE.2⟩ (Nat.le_of_ble_eq_true rfl) (Nat.le_of_ble_eq_true rfl)) (fun b_1 => ?_)
  have hE := b_1.1
  have b_1 := b_1.2
  have hF := hF.trans (if_pos hE)
  refine lv_aload_n hx hb dX9_entriesOf_5 rfl (lv_at hl 0 rfl) ?_
  refine va_get (D := G.1) (ci := 11) (v := .ref (va 0)) (C := RX9) (T := TX9) (N := 8) hx hb hts uws_X9 hown hK hP 0 rfl rfl 0 (by decide) (hts _ u_1097) (fun _ h9 => h9) rfl dX9_entriesOf_6 ?_
  refine va_get (D := G.1) (ci := 10) (v := .ref (va 10)) (C := RX8) (T := TX8) (N := 6) hx hb hts uws_X8 hown hK hP 1 rfl rfl 4 (by decide) (hts _ u_1032) (fun _ h9 => h9) rfl dX9_entriesOf_9 ?_
  refine lv_iload_n hx hb dX9_entriesOf_12 rfl (lv_at hl 1 rfl) ?_
  refine r_V (own := RX9) (v := (some (.int (f_X5_entriesFor v.2.2.2.2.1 x)))) (st1 := [.int (f_X5_entriesFor v.2.2.2.2.1 x)]) (As := [.int x]) (rest := []) (c_X5_entriesFor l G (va 10) (va 11) (va 12) v.2.2.2.2.1 x) ⟨hx, hb, hml, hown, hts⟩ g_X9_204 hdv_X5_entriesFor hK hST hS hP [11, 12, 13] rfl (k0 := 0) rfl rfl rfl ⟨Nat.le_of_ble_eq_true rfl, Nat.le_of_ble_eq_true rfl⟩ ⟨Nat.le_of_ble_eq_true rfl, Nat.le_of_ble_eq_true rfl⟩ rfl hl.1 rfl (Nat.le_of_ble_eq_true rfl) dX9_entriesOf_13 rfl (fun b_2 => ?_)
  exact x_retI hx hb hr hlk rfl (by rw [hF]) ⟨congrArg Prod.fst hF, trivial⟩ (Nat.le_of_ble_eq_true rfl) (Nat.le_of_ble_eq_true rfl) dX9_entriesOf_16
theorem dX9_phaseOn_0 : decode cX9_phaseOn 0 = .ok (.iload_n 1, 1) := by decide +kernel
theorem dX9_phaseOn_1 : decode cX9_phaseOn 1 = .ok (.iconst 0, 1) := by decide +kernel
theorem dX9_phaseOn_2 : decode cX9_phaseOn 2 = .ok (.sipush 9999, 3) := by decide +kernel
theorem dX9_phaseOn_5 : decode cX9_phaseOn 5 = .ok (.invokestatic 122, 3) := by decide +kernel
theorem u_830 : Cond.methodLink RX9 122 yX9_requireRange ∈ UW := uw 830 (by decide +kernel) rfl
theorem u_831 : Cond.static yX9_requireRange ∈ UW := uw 831 (by decide +kernel) rfl
theorem u_832 : Cond.code yX9_requireRange cX9_requireRange 3 none ∈ UW := uw 832 (by decide +kernel) rfl
theorem g_X9_122 : GoodIn UW (va_wsS RX9 122 yX9_requireRange (wsU yX9_requireRange cX9_requireRange 3 none)) := gS u_830 u_831 u_21 u_832
theorem hds_X9_requireRange : yX9_requireRange.cls ≠ "java/lang/invoke/MethodHandle" ∧ yX9_requireRange.cls ≠ "java/lang/invoke/VarHandle" ∧ (parseMethodDescriptor yX9_requireRange.desc).map (fun d => d.parameters.length) = some 3 := by decide +kernel
theorem dX9_phaseOn_8 : decode cX9_phaseOn 8 = .ok (.aload_n 0, 1) := by decide +kernel
theorem dX9_phaseOn_9 : decode cX9_phaseOn 9 = .ok (.getfield 10, 3) := by decide +kernel
theorem dX9_phaseOn_12 : decode cX9_phaseOn 12 = .ok (.iload_n 1, 1) := by decide +kernel
theorem dX9_phaseOn_13 : decode cX9_phaseOn 13 = .ok (.invokevirtual 219, 3) := by decide +kernel
theorem u_1513 : Cond.methodLink RX9 219 yX8_phaseFor ∈ UW := uw 1513 (by decide +kernel) rfl
theorem g_X9_219 : GoodIn UW (wsV RX9 219 RX8 yX8_phaseFor (wsU yX8_phaseFor cX8_phaseFor 2 (some .int))) := gV u_1513 u_533 u_534 u_22 u_535
theorem dX9_phaseOn_16 : decode cX9_phaseOn 16 = .ok (.ireturn, 1) := by decide +kernel
def f_X9_phaseOn (q : McV) (v : StV) (x : Int32) : String × Int32 := (if (f_X9_requireRange x (0 : Int32) (9999 : Int32)) = "" then ("", (f_X8_phaseFor v x)) else ((f_X9_requireRange x (0 : Int32) (9999 : Int32)), 0))
set_option maxHeartbeats 4000000 in
set_option maxRecDepth 100000 in
theorem c_X9_phaseOn (l : Launch) (hlf : l.stackTraces = false) (G : GG) (qh0 : Nat) (q_snapshot : Nat) (q_history : Nat) (q_program : Nat) (q_notice : Nat) (va : Nat → Nat) (q : McV) (v : StV) (x : Int32) : xrMet l yX9_phaseOn cX9_phaseOn 2 (some .int) 9 1 6 G (fl [[(qh0, .inr (11, [.ref (va 0), .ref q_snapshot, .int q.1, .ref q_history, .ref q_program, .ref q_notice, .int q.2.1, .int q.2.2]))], [((va 0), .inr (10, [.int v.1, .int v.2.1, .ref (va 1), .ref (va 6), .ref (va 10), .ref (va 13)]))], wDo G (va 1) (va 2) (va 3) (va 4) (va 5) v.2.2.1, wEx G (va 6) (va 7) (va 8) (va 9) v.2.2.2.1, wPe G (va 10) (va 11) (va 12) v.2.2.2.2.1, wAu G (va 13) (va 14) (va 15) (va 16) (va 17) (va 18) (va 19) v.2.2.2.2.2]) [.ref qh0, .int x] (some (.int ((f_X9_phaseOn q v x).2))) ((f_X9_phaseOn q v x).1 = "" ∧ True) (fun E => E = (f_X9_phaseOn q v x).1 ∧ E ≠ "") := by
  refine xr_start (by decide +kernel) (Nat.le_of_ble_eq_true rfl) ?_
  intro p e s m below meth c hx hb hr hml hts hown hlk hxt hP hK hST ls hl
  have hS : va_S (fun _ => False) s.heap s.heap [] := va_S.rf
  have hown : s.vm.findClass RX9 = some m.cls := hown
  have hl : lv_has ls 2 [(0, .ref qh0), (1, .int x)] := hl
  have hF : f_X9_phaseOn q v x = (if (f_X9_requireRange x (0 : Int32) (9999 : Int32)) = "" then ("", (f_X8_phaseFor v x)) else ((f_X9_requireRange x (0 : Int32) (9999 : Int32)), 0)) := rfl
  refine lv_iload_n hx hb dX9_phaseOn_0 rfl (lv_at hl 1 rfl) ?_
  refine lv_iconst (v := (0 : Int32)) hx hb dX9_phaseOn_1 (by decide) ?_
  refine lv_sipush (v := (9999 : Int32)) hx hb dX9_phaseOn_2 (by decide) ?_
  refine xr_S (own := RX9) (v := none) (st1 := []) (As := [.int x, .int (0 : Int32), .int (9999 : Int32)]) (rest := []) (c_X9_requireRange l hlf G x (0 : Int32) (9999 : Int32)) ⟨hx, hb, hml, hown, hts⟩ g_X9_122 hds_X9_requireRange hK hST hS hP [] rfl ⟨Nat.le_of_ble_eq_true rfl, Nat.le_of_ble_eq_true rfl⟩ ⟨Nat.le_of_ble_eq_true rfl, Nat.le_of_ble_eq_true rfl⟩ rfl hl.1 rfl (Nat.le_of_ble_eq_true rfl) dX9_phaseOn_5 rfl (fun E ce q9 H1 hE h1 h2 h3 h4 h5 => xr_out hxt hlk h3 h4 h5 h1 h2 rfl ⟨hE.1.trans (congrArg Prod.fst (hF.trans (if_neg (fun e => hE.2 (hE.1.trans e))))).symm, hE.2⟩ (Nat.le_of_ble_eq_true rfl) (Nat.le_of_ble_eq_true rfl)) (fun b_1 => ?_)
  have hE := b_1.1
  have b_1 := b_1.2
  have hF := hF.trans (if_pos hE)
  refine lv_aload_n hx hb dX9_phaseOn_8 rfl (lv_at hl 0 rfl) ?_
  refine va_get (D := G.1) (ci := 11) (v := .ref (va 0)) (C := RX9) (T := TX9) (N := 8) hx hb hts uws_X9 hown hK hP 0 rfl rfl 0 (by decide) (hts _ u_1097) (fun _ h9 => h9) rfl dX9_phaseOn_9 ?_
  refine lv_iload_n hx hb dX9_phaseOn_12 rfl (lv_at hl 1 rfl) ?_
  refine r_V (own := RX9) (v := (some (.int (f_X8_phaseFor v x)))) (st1 := [.int (f_X8_phaseFor v x)]) (As := [.int x]) (rest := []) (c_X8_phaseFor l G va v x) ⟨hx, hb, hml, hown, hts⟩ g_X9_219 hdv_X8_phaseFor hK hST hS hP [1, 2, 3, 4, 5, 6, 7, 8, 9, 10, 11, 12, 13, 14, 15, 16, 17, 18, 19, 20] rfl (k0 := 0) rfl rfl rfl ⟨Nat.le_of_ble_eq_true rfl, Nat.le_of_ble_eq_true rfl⟩ ⟨Nat.le_of_ble_eq_true rfl, Nat.le_of_ble_eq_true rfl⟩ rfl hl.1 rfl (Nat.le_of_ble_eq_true rfl) dX9_phaseOn_13 rfl (fun b_2 => ?_)
  exact x_retI hx hb hr hlk rfl (by rw [hF]) ⟨congrArg Prod.fst hF, trivial⟩ (Nat.le_of_ble_eq_true rfl) (Nat.le_of_ble_eq_true rfl) dX9_phaseOn_16
theorem dX9_daysUntilPhase_0 : decode cX9_daysUntilPhase 0 = .ok (.iload_n 1, 1) := by decide +kernel
theorem dX9_daysUntilPhase_1 : decode cX9_daysUntilPhase 1 = .ok (.iconst 0, 1) := by decide +kernel
theorem dX9_daysUntilPhase_2 : decode cX9_daysUntilPhase 2 = .ok (.bipush 7, 2) := by decide +kernel
theorem dX9_daysUntilPhase_4 : decode cX9_daysUntilPhase 4 = .ok (.invokestatic 122, 3) := by decide +kernel
theorem dX9_daysUntilPhase_7 : decode cX9_daysUntilPhase 7 = .ok (.aload_n 0, 1) := by decide +kernel
theorem dX9_daysUntilPhase_8 : decode cX9_daysUntilPhase 8 = .ok (.getfield 10, 3) := by decide +kernel
theorem dX9_daysUntilPhase_11 : decode cX9_daysUntilPhase 11 = .ok (.iload_n 1, 1) := by decide +kernel
theorem dX9_daysUntilPhase_12 : decode cX9_daysUntilPhase 12 = .ok (.invokevirtual 222, 3) := by decide +kernel
theorem u_833 : Cond.methodLink RX9 222 yX8_daysToPhase ∈ UW := uw 833 (by decide +kernel) rfl
theorem u_834 : Cond.instanceMethod yX8_daysToPhase ∈ UW := uw 834 (by decide +kernel) rfl
theorem u_835 : Cond.selects RX8 yX8_daysToPhase yX8_daysToPhase ∈ UW := uw 835 (by decide +kernel) rfl
theorem u_836 : Cond.code yX8_daysToPhase cX8_daysToPhase 3 (some .int) ∈ UW := uw 836 (by decide +kernel) rfl
theorem g_X9_222 : GoodIn UW (wsV RX9 222 RX8 yX8_daysToPhase (wsU yX8_daysToPhase cX8_daysToPhase 3 (some .int))) := gV u_833 u_834 u_835 u_22 u_836
theorem hdv_X8_daysToPhase : yX8_daysToPhase.cls = RX8 ∧ yX8_daysToPhase.cls ≠ "java/lang/invoke/MethodHandle" ∧ yX8_daysToPhase.cls ≠ "java/lang/invoke/VarHandle" ∧ (parseMethodDescriptor yX8_daysToPhase.desc).map (fun d => d.parameters.length) = some 1 := by decide +kernel
theorem dX9_daysUntilPhase_15 : decode cX9_daysUntilPhase 15 = .ok (.ireturn, 1) := by decide +kernel
def f_X9_daysUntilPhase (q : McV) (v : StV) (x : Int32) : String × Int32 := (if (f_X9_requireRange x (0 : Int32) (7 : Int32)) = "" then ("", (f_X8_daysToPhase v x)) else ((f_X9_requireRange x (0 : Int32) (7 : Int32)), 0))
set_option maxHeartbeats 4000000 in
set_option maxRecDepth 100000 in
theorem c_X9_daysUntilPhase (l : Launch) (hlf : l.stackTraces = false) (G : GG) (qh0 : Nat) (q_snapshot : Nat) (q_history : Nat) (q_program : Nat) (q_notice : Nat) (va : Nat → Nat) (q : McV) (v : StV) (x : Int32) : xrMet l yX9_daysUntilPhase cX9_daysUntilPhase 2 (some .int) 9 1 6 G (fl [[(qh0, .inr (11, [.ref (va 0), .ref q_snapshot, .int q.1, .ref q_history, .ref q_program, .ref q_notice, .int q.2.1, .int q.2.2]))], [((va 0), .inr (10, [.int v.1, .int v.2.1, .ref (va 1), .ref (va 6), .ref (va 10), .ref (va 13)]))], wDo G (va 1) (va 2) (va 3) (va 4) (va 5) v.2.2.1, wEx G (va 6) (va 7) (va 8) (va 9) v.2.2.2.1, wPe G (va 10) (va 11) (va 12) v.2.2.2.2.1, wAu G (va 13) (va 14) (va 15) (va 16) (va 17) (va 18) (va 19) v.2.2.2.2.2]) [.ref qh0, .int x] (some (.int ((f_X9_daysUntilPhase q v x).2))) ((f_X9_daysUntilPhase q v x).1 = "" ∧ True) (fun E => E = (f_X9_daysUntilPhase q v x).1 ∧ E ≠ "") := by
  refine xr_start (by decide +kernel) (Nat.le_of_ble_eq_true rfl) ?_
  intro p e s m below meth c hx hb hr hml hts hown hlk hxt hP hK hST ls hl
  have hS : va_S (fun _ => False) s.heap s.heap [] := va_S.rf
  have hown : s.vm.findClass RX9 = some m.cls := hown
  have hl : lv_has ls 2 [(0, .ref qh0), (1, .int x)] := hl
  have hF : f_X9_daysUntilPhase q v x = (if (f_X9_requireRange x (0 : Int32) (7 : Int32)) = "" then ("", (f_X8_daysToPhase v x)) else ((f_X9_requireRange x (0 : Int32) (7 : Int32)), 0)) := rfl
  refine lv_iload_n hx hb dX9_daysUntilPhase_0 rfl (lv_at hl 1 rfl) ?_
  refine lv_iconst (v := (0 : Int32)) hx hb dX9_daysUntilPhase_1 (by decide) ?_
  refine lv_bipush (v := (7 : Int32)) hx hb dX9_daysUntilPhase_2 (by decide) ?_
  refine xr_S (own := RX9) (v := none) (st1 := []) (As := [.int x, .int (0 : Int32), .int (7 : Int32)]) (rest := []) (c_X9_requireRange l hlf G x (0 : Int32) (7 : Int32)) ⟨hx, hb, hml, hown, hts⟩ g_X9_122 hds_X9_requireRange hK hST hS hP [] rfl ⟨Nat.le_of_ble_eq_true rfl, Nat.le_of_ble_eq_true rfl⟩ ⟨Nat.le_of_ble_eq_true rfl, Nat.le_of_ble_eq_true rfl⟩ rfl hl.1 rfl (Nat.le_of_ble_eq_true rfl) dX9_daysUntilPhase_4 rfl (fun E ce q9 H1 hE h1 h2 h3 h4 h5 => xr_out hxt hlk h3 h4 h5 h1 h2 rfl ⟨hE.1.trans (congrArg Prod.fst (hF.trans (if_neg (fun e => hE.2 (hE.1.trans e))))).symm, hE.2⟩ (Nat.le_of_ble_eq_true rfl) (Nat.le_of_ble_eq_true rfl)) (fun b_1 => ?_)
  have hE := b_1.1
  have b_1 := b_1.2
  have hF := hF.trans (if_pos hE)
  refine lv_aload_n hx hb dX9_daysUntilPhase_7 rfl (lv_at hl 0 rfl) ?_
  refine va_get (D := G.1) (ci := 11) (v := .ref (va 0)) (C := RX9) (T := TX9) (N := 8) hx hb hts uws_X9 hown hK hP 0 rfl rfl 0 (by decide) (hts _ u_1097) (fun _ h9 => h9) rfl dX9_daysUntilPhase_8 ?_
  refine lv_iload_n hx hb dX9_daysUntilPhase_11 rfl (lv_at hl 1 rfl) ?_
  refine r_V (own := RX9) (v := (some (.int (f_X8_daysToPhase v x)))) (st1 := [.int (f_X8_daysToPhase v x)]) (As := [.int x]) (rest := []) (c_X8_daysToPhase l G va v x) ⟨hx, hb, hml, hown, hts⟩ g_X9_222 hdv_X8_daysToPhase hK hST hS hP [1, 2, 3, 4, 5, 6, 7, 8, 9, 10, 11, 12, 13, 14, 15, 16, 17, 18, 19, 20] rfl (k0 := 0) rfl rfl rfl ⟨Nat.le_of_ble_eq_true rfl, Nat.le_of_ble_eq_true rfl⟩ ⟨Nat.le_of_ble_eq_true rfl, Nat.le_of_ble_eq_true rfl⟩ rfl hl.1 rfl (Nat.le_of_ble_eq_true rfl) dX9_daysUntilPhase_12 rfl (fun b_2 => ?_)
  exact x_retI hx hb hr hlk rfl (by rw [hF]) ⟨congrArg Prod.fst hF, trivial⟩ (Nat.le_of_ble_eq_true rfl) (Nat.le_of_ble_eq_true rfl) dX9_daysUntilPhase_15
theorem dX9_hoursUntilUnlocked_0 : decode cX9_hoursUntilUnlocked 0 = .ok (.aload_n 0, 1) := by decide +kernel
theorem dX9_hoursUntilUnlocked_1 : decode cX9_hoursUntilUnlocked 1 = .ok (.iload_n 1, 1) := by decide +kernel
theorem dX9_hoursUntilUnlocked_2 : decode cX9_hoursUntilUnlocked 2 = .ok (.invokevirtual 73, 3) := by decide +kernel
theorem dX9_hoursUntilUnlocked_5 : decode cX9_hoursUntilUnlocked 5 = .ok (.aload_n 0, 1) := by decide +kernel
theorem dX9_hoursUntilUnlocked_6 : decode cX9_hoursUntilUnlocked 6 = .ok (.getfield 10, 3) := by decide +kernel
theorem dX9_hoursUntilUnlocked_9 : decode cX9_hoursUntilUnlocked 9 = .ok (.iload_n 1, 1) := by decide +kernel
theorem dX9_hoursUntilUnlocked_10 : decode cX9_hoursUntilUnlocked 10 = .ok (.invokevirtual 231, 3) := by decide +kernel
theorem u_845 : Cond.methodLink RX9 231 yX8_lookHourByHour ∈ UW := uw 845 (by decide +kernel) rfl
theorem u_846 : Cond.instanceMethod yX8_lookHourByHour ∈ UW := uw 846 (by decide +kernel) rfl
theorem u_847 : Cond.selects RX8 yX8_lookHourByHour yX8_lookHourByHour ∈ UW := uw 847 (by decide +kernel) rfl
theorem u_848 : Cond.code yX8_lookHourByHour cX8_lookHourByHour 3 (some .int) ∈ UW := uw 848 (by decide +kernel) rfl
theorem g_X9_231 : GoodIn UW (wsV RX9 231 RX8 yX8_lookHourByHour (wsU yX8_lookHourByHour cX8_lookHourByHour 3 (some .int))) := gV u_845 u_846 u_847 u_22 u_848
theorem hdv_X8_lookHourByHour : yX8_lookHourByHour.cls = RX8 ∧ yX8_lookHourByHour.cls ≠ "java/lang/invoke/MethodHandle" ∧ yX8_lookHourByHour.cls ≠ "java/lang/invoke/VarHandle" ∧ (parseMethodDescriptor yX8_lookHourByHour.desc).map (fun d => d.parameters.length) = some 1 := by decide +kernel
theorem dX9_hoursUntilUnlocked_13 : decode cX9_hoursUntilUnlocked 13 = .ok (.istore_n 2, 1) := by decide +kernel
theorem dX9_hoursUntilUnlocked_14 : decode cX9_hoursUntilUnlocked 14 = .ok (.iload_n 2, 1) := by decide +kernel
theorem dX9_hoursUntilUnlocked_15 : decode cX9_hoursUntilUnlocked 15 = .ok (.iconst (-1), 1) := by decide +kernel
theorem dX9_hoursUntilUnlocked_16 : decode cX9_hoursUntilUnlocked 16 = .ok (.if_icmp .eq 7, 3) := by decide +kernel
theorem dX9_hoursUntilUnlocked_23 : decode cX9_hoursUntilUnlocked 23 = .ok (.iconst 0, 1) := by decide +kernel
theorem dX9_hoursUntilUnlocked_24 : decode cX9_hoursUntilUnlocked 24 = .ok (.invokestatic 141, 3) := by decide +kernel
theorem dX9_hoursUntilUnlocked_27 : decode cX9_hoursUntilUnlocked 27 = .ok (.iload_n 2, 1) := by decide +kernel
theorem dX9_hoursUntilUnlocked_28 : decode cX9_hoursUntilUnlocked 28 = .ok (.ireturn, 1) := by decide +kernel
theorem dX9_hoursUntilUnlocked_19 : decode cX9_hoursUntilUnlocked 19 = .ok (.iconst 1, 1) := by decide +kernel
theorem dX9_hoursUntilUnlocked_20 : decode cX9_hoursUntilUnlocked 20 = .ok (.goto 4, 3) := by decide +kernel
def f_X9_hoursUntilUnlocked (q : McV) (v : StV) (x : Int32) : String × Int32 := (if (f_X9_requireDoor q v x) = "" then (let y_3 : Int32 := (f_X8_lookHourByHour v x); (if y_3 = (-1 : Int32) then (if (f_X9_requireElement (0 : Int32)) = "" then ("", y_3) else ((f_X9_requireElement (0 : Int32)), 0)) else (if (f_X9_requireElement (1 : Int32)) = "" then ("", y_3) else ((f_X9_requireElement (1 : Int32)), 0)))) else ((f_X9_requireDoor q v x), 0))
set_option maxHeartbeats 4000000 in
set_option maxRecDepth 100000 in
theorem c_X9_hoursUntilUnlocked (l : Launch) (hlf : l.stackTraces = false) (G : GG) (qh0 : Nat) (q_snapshot : Nat) (q_history : Nat) (q_program : Nat) (q_notice : Nat) (va : Nat → Nat) (q : McV) (v : StV) (x : Int32) : xrMet l yX9_hoursUntilUnlocked cX9_hoursUntilUnlocked 3 (some .int) 9 2 12 G (fl [[(qh0, .inr (11, [.ref (va 0), .ref q_snapshot, .int q.1, .ref q_history, .ref q_program, .ref q_notice, .int q.2.1, .int q.2.2]))], [((va 0), .inr (10, [.int v.1, .int v.2.1, .ref (va 1), .ref (va 6), .ref (va 10), .ref (va 13)]))], wDo G (va 1) (va 2) (va 3) (va 4) (va 5) v.2.2.1, wEx G (va 6) (va 7) (va 8) (va 9) v.2.2.2.1, wPe G (va 10) (va 11) (va 12) v.2.2.2.2.1, wAu G (va 13) (va 14) (va 15) (va 16) (va 17) (va 18) (va 19) v.2.2.2.2.2]) [.ref qh0, .int x] (some (.int ((f_X9_hoursUntilUnlocked q v x).2))) ((f_X9_hoursUntilUnlocked q v x).1 = "" ∧ True) (fun E => E = (f_X9_hoursUntilUnlocked q v x).1 ∧ E ≠ "") := by
  refine xr_start (by decide +kernel) (Nat.le_of_ble_eq_true rfl) ?_
  intro p e s m below meth c hx hb hr hml hts hown hlk hxt hP hK hST ls hl
  have hS : va_S (fun _ => False) s.heap s.heap [] := va_S.rf
  have hown : s.vm.findClass RX9 = some m.cls := hown
  have hl : lv_has ls 3 [(0, .ref qh0), (1, .int x)] := hl
  have hF : f_X9_hoursUntilUnlocked q v x = (if (f_X9_requireDoor q v x) = "" then (let y_3 : Int32 := (f_X8_lookHourByHour v x); (if y_3 = (-1 : Int32) then (if (f_X9_requireElement (0 : Int32)) = "" then ("", y_3) else ((f_X9_requireElement (0 : Int32)), 0)) else (if (f_X9_requireElement (1 : Int32)) = "" then ("", y_3) else ((f_X9_requireElement (1 : Int32)), 0)))) else ((f_X9_requireDoor q v x), 0)) := rfl
  refine lv_aload_n hx hb dX9_hoursUntilUnlocked_0 rfl (lv_at hl 0 rfl) ?_
  refine lv_iload_n hx hb dX9_hoursUntilUnlocked_1 rfl (lv_at hl 1 rfl) ?_
  refine xr_V (own := RX9) (v := none) (st1 := []) (As := [.int x]) (rest := []) (c_X9_requireDoor l hlf G qh0 q_snapshot q_history q_program q_notice va q v x) ⟨hx, hb, hml, hown, hts⟩ g_X9_73 hdv_X9_requireDoor hK hST hS hP [0, 1, 2, 3, 4, 5, 6, 7, 8, 9, 10, 11, 12, 13, 14, 15, 16, 17, 18, 19, 20] rfl (k0 := 0) rfl rfl rfl ⟨Nat.le_of_ble_eq_true rfl, Nat.le_of_ble_eq_true rfl⟩ ⟨Nat.le_of_ble_eq_true rfl, Nat.le_of_ble_eq_true rfl⟩ rfl hl.1 rfl (Nat.le_of_ble_eq_true rfl) dX9_hoursUntilUnlocked_2 rfl (fun E ce q9 H1 hE h1 h2 h3 h4 h5 => xr_out hxt hlk h3 h4 h5 h1 h2 rfl ⟨hE.1.trans (congrArg Prod.fst (hF.trans (if_neg (fun e => hE.2 (hE.1.trans e))))).symm, hE.2⟩ (Nat.le_of_ble_eq_true rfl) (Nat.le_of_ble_eq_true rfl)) (fun b_1 => ?_)
  have hE := b_1.1
  have b_1 := b_1.2
  have hF := hF.trans (if_pos hE)
  refine lv_aload_n hx hb dX9_hoursUntilUnlocked_5 rfl (lv_at hl 0 rfl) ?_
  refine va_get (D := G.1) (ci := 11) (v := .ref (va 0)) (C := RX9) (T := TX9) (N := 8) hx hb hts uws_X9 hown hK hP 0 rfl rfl 0 (by decide) (hts _ u_1097) (fun _ h9 => h9) rfl dX9_hoursUntilUnlocked_6 ?_
  refine lv_iload_n hx hb dX9_hoursUntilUnlocked_9 rfl (lv_at hl 1 rfl) ?_
  refine r_V (own := RX9) (v := (some (.int (f_X8_lookHourByHour v x)))) (st1 := [.int (f_X8_lookHourByHour v x)]) (As := [.int x]) (rest := []) (c_X8_lookHourByHour l G va v x) ⟨hx, hb, hml, hown, hts⟩ g_X9_231 hdv_X8_lookHourByHour hK hST hS hP [1, 2, 3, 4, 5, 6, 7, 8, 9, 10, 11, 12, 13, 14, 15, 16, 17, 18, 19, 20] rfl (k0 := 0) rfl rfl rfl ⟨Nat.le_of_ble_eq_true rfl, Nat.le_of_ble_eq_true rfl⟩ ⟨Nat.le_of_ble_eq_true rfl, Nat.le_of_ble_eq_true rfl⟩ rfl hl.1 rfl (Nat.le_of_ble_eq_true rfl) dX9_hoursUntilUnlocked_10 rfl (fun b_2 => ?_)
  refine lv_topi (fun y_3 ey_3 => ?_)
  have hF : f_X9_hoursUntilUnlocked q v x = (if y_3 = (-1 : Int32) then (if (f_X9_requireElement (0 : Int32)) = "" then ("", y_3) else ((f_X9_requireElement (0 : Int32)), 0)) else (if (f_X9_requireElement (1 : Int32)) = "" then ("", y_3) else ((f_X9_requireElement (1 : Int32)), 0))) := by subst ey_3; exact hF
  refine lv_istore_n (lv' := [(2, .int y_3), (0, .ref qh0), (1, .int x)]) hx hb dX9_hoursUntilUnlocked_13 rfl hl (by decide) rfl (fun ls hl => ?_)
  refine lv_iload_n hx hb dX9_hoursUntilUnlocked_14 rfl (lv_at hl 0 rfl) ?_
  refine lv_iconst (v := (-1 : Int32)) hx hb dX9_hoursUntilUnlocked_15 (by decide) ?_
  refine lv_icmp_eq (tgt := 23) hx hb dX9_hoursUntilUnlocked_16 (by decide) (fun c_4 => ?_) (fun c_4 => ?_)
  · have hF := hF.trans (if_pos c_4)
    refine lv_iconst (v := (0 : Int32)) hx hb dX9_hoursUntilUnlocked_23 (by decide) ?_
    refine xr_S (own := RX9) (v := none) (st1 := []) (As := [.int (0 : Int32)]) (rest := []) (c_X9_requireElement l hlf G (0 : Int32)) ⟨hx, hb, hml, hown, hts⟩ g_X9_141 hds_X9_requireElement hK hST hS hP [] rfl ⟨Nat.le_of_ble_eq_true rfl, Nat.le_of_ble_eq_true rfl⟩ ⟨Nat.le_of_ble_eq_true rfl, Nat.le_of_ble_eq_true rfl⟩ rfl hl.1 rfl (Nat.le_of_ble_eq_true rfl) dX9_hoursUntilUnlocked_24 rfl (fun E ce q9 H1 hE h1 h2 h3 h4 h5 => xr_out hxt hlk h3 h4 h5 h1 h2 rfl ⟨hE.1.trans (congrArg Prod.fst (hF.trans (if_neg (fun e => hE.2 (hE.1.trans e))))).symm, hE.2⟩ (Nat.le_of_ble_eq_true rfl) (Nat.le_of_ble_eq_true rfl)) (fun b_5 => ?_)
    have hE := b_5.1
    have b_5 := b_5.2
    have hF := hF.trans (if_pos hE)
    refine lv_iload_n hx hb dX9_hoursUntilUnlocked_27 rfl (lv_at hl 0 rfl) ?_
    exact x_retI hx hb hr hlk rfl (by rw [hF]) ⟨congrArg Prod.fst hF, trivial⟩ (Nat.le_of_ble_eq_true rfl) (Nat.le_of_ble_eq_true rfl) dX9_hoursUntilUnlocked_28
  · have hF := hF.trans (if_neg c_4)
    refine lv_iconst (v := (1 : Int32)) hx hb dX9_hoursUntilUnlocked_19 (by decide) ?_
    refine lv_goto (tgt := 24) hx hb dX9_hoursUntilUnlocked_20 (by decide) ?_
    refine xr_S (own := RX9) (v := none) (st1 := []) (As := [.int (1 : Int32)]) (rest := []) (c_X9_requireElement l hlf G (1 : Int32)) ⟨hx, hb, hml, hown, hts⟩ g_X9_141 hds_X9_requireElement hK hST hS hP [] rfl ⟨Nat.le_of_ble_eq_true rfl, Nat.le_of_ble_eq_true rfl⟩ ⟨Nat.le_of_ble_eq_true rfl, Nat.le_of_ble_eq_true rfl⟩ rfl hl.1 rfl (Nat.le_of_ble_eq_true rfl) dX9_hoursUntilUnlocked_24 rfl (fun E ce q9 H1 hE h1 h2 h3 h4 h5 => xr_out hxt hlk h3 h4 h5 h1 h2 rfl ⟨hE.1.trans (congrArg Prod.fst (hF.trans (if_neg (fun e => hE.2 (hE.1.trans e))))).symm, hE.2⟩ (Nat.le_of_ble_eq_true rfl) (Nat.le_of_ble_eq_true rfl)) (fun b_6 => ?_)
    have hE := b_6.1
    have b_6 := b_6.2
    have hF := hF.trans (if_pos hE)
    refine lv_iload_n hx hb dX9_hoursUntilUnlocked_27 rfl (lv_at hl 0 rfl) ?_
    exact x_retI hx hb hr hlk rfl (by rw [hF]) ⟨congrArg Prod.fst hF, trivial⟩ (Nat.le_of_ble_eq_true rfl) (Nat.le_of_ble_eq_true rfl) dX9_hoursUntilUnlocked_28
theorem dX9_hoursUntilUnlockedByDays_0 : decode cX9_hoursUntilUnlockedByDays 0 = .ok (.aload_n 0, 1) := by decide +kernel
theorem dX9_hoursUntilUnlockedByDays_1 : decode cX9_hoursUntilUnlockedByDays 1 = .ok (.iload_n 1, 1) := by decide +kernel
theorem dX9_hoursUntilUnlockedByDays_2 : decode cX9_hoursUntilUnlockedByDays 2 = .ok (.invokevirtual 73, 3) := by decide +kernel
theorem dX9_hoursUntilUnlockedByDays_5 : decode cX9_hoursUntilUnlockedByDays 5 = .ok (.aload_n 0, 1) := by decide +kernel
theorem dX9_hoursUntilUnlockedByDays_6 : decode cX9_hoursUntilUnlockedByDays 6 = .ok (.getfield 10, 3) := by decide +kernel
theorem dX9_hoursUntilUnlockedByDays_9 : decode cX9_hoursUntilUnlockedByDays 9 = .ok (.iload_n 1, 1) := by decide +kernel
theorem dX9_hoursUntilUnlockedByDays_10 : decode cX9_hoursUntilUnlockedByDays 10 = .ok (.invokevirtual 234, 3) := by decide +kernel
theorem u_1548 : Cond.methodLink RX9 234 yX8_lookDayByDay ∈ UW := uw 1548 (by decide +kernel) rfl
theorem u_1549 : Cond.instanceMethod yX8_lookDayByDay ∈ UW := uw 1549 (by decide +kernel) rfl
theorem u_1550 : Cond.selects RX8 yX8_lookDayByDay yX8_lookDayByDay ∈ UW := uw 1550 (by decide +kernel) rfl
theorem u_1551 : Cond.code yX8_lookDayByDay cX8_lookDayByDay 7 (some .int) ∈ UW := uw 1551 (by decide +kernel) rfl
theorem g_X9_234 : GoodIn UW (wsV RX9 234 RX8 yX8_lookDayByDay (wsU yX8_lookDayByDay cX8_lookDayByDay 7 (some .int))) := gV u_1548 u_1549 u_1550 u_22 u_1551
theorem hdv_X8_lookDayByDay : yX8_lookDayByDay.cls = RX8 ∧ yX8_lookDayByDay.cls ≠ "java/lang/invoke/MethodHandle" ∧ yX8_lookDayByDay.cls ≠ "java/lang/invoke/VarHandle" ∧ (parseMethodDescriptor yX8_lookDayByDay.desc).map (fun d => d.parameters.length) = some 1 := by decide +kernel
theorem dX9_hoursUntilUnlockedByDays_13 : decode cX9_hoursUntilUnlockedByDays 13 = .ok (.istore_n 2, 1) := by decide +kernel
theorem dX9_hoursUntilUnlockedByDays_14 : decode cX9_hoursUntilUnlockedByDays 14 = .ok (.iload_n 2, 1) := by decide +kernel
theorem dX9_hoursUntilUnlockedByDays_15 : decode cX9_hoursUntilUnlockedByDays 15 = .ok (.iconst (-1), 1) := by decide +kernel
theorem dX9_hoursUntilUnlockedByDays_16 : decode cX9_hoursUntilUnlockedByDays 16 = .ok (.if_icmp .eq 7, 3) := by decide +kernel
theorem dX9_hoursUntilUnlockedByDays_23 : decode cX9_hoursUntilUnlockedByDays 23 = .ok (.iconst 0, 1) := by decide +kernel
theorem dX9_hoursUntilUnlockedByDays_24 : decode cX9_hoursUntilUnlockedByDays 24 = .ok (.invokestatic 141, 3) := by decide +kernel
theorem dX9_hoursUntilUnlockedByDays_27 : decode cX9_hoursUntilUnlockedByDays 27 = .ok (.iload_n 2, 1) := by decide +kernel
theorem dX9_hoursUntilUnlockedByDays_28 : decode cX9_hoursUntilUnlockedByDays 28 = .ok (.ireturn, 1) := by decide +kernel
theorem dX9_hoursUntilUnlockedByDays_19 : decode cX9_hoursUntilUnlockedByDays 19 = .ok (.iconst 1, 1) := by decide +kernel
theorem dX9_hoursUntilUnlockedByDays_20 : decode cX9_hoursUntilUnlockedByDays 20 = .ok (.goto 4, 3) := by decide +kernel
def f_X9_hoursUntilUnlockedByDays (q : McV) (v : StV) (x : Int32) : String × Int32 := (if (f_X9_requireDoor q v x) = "" then (if (f_X8_lookDayByDay v x) = (-1 : Int32) then (if (f_X9_requireElement (0 : Int32)) = "" then ("", (f_X8_lookDayByDay v x)) else ((f_X9_requireElement (0 : Int32)), 0)) else (if (f_X9_requireElement (1 : Int32)) = "" then ("", (f_X8_lookDayByDay v x)) else ((f_X9_requireElement (1 : Int32)), 0))) else ((f_X9_requireDoor q v x), 0))
set_option maxHeartbeats 4000000 in
set_option maxRecDepth 100000 in
theorem c_X9_hoursUntilUnlockedByDays (l : Launch) (hlf : l.stackTraces = false) (G : GG) (qh0 : Nat) (q_snapshot : Nat) (q_history : Nat) (q_program : Nat) (q_notice : Nat) (va : Nat → Nat) (q : McV) (v : StV) (x : Int32) : xrMet l yX9_hoursUntilUnlockedByDays cX9_hoursUntilUnlockedByDays 3 (some .int) 9 2 12 G (fl [[(qh0, .inr (11, [.ref (va 0), .ref q_snapshot, .int q.1, .ref q_history, .ref q_program, .ref q_notice, .int q.2.1, .int q.2.2]))], [((va 0), .inr (10, [.int v.1, .int v.2.1, .ref (va 1), .ref (va 6), .ref (va 10), .ref (va 13)]))], wDo G (va 1) (va 2) (va 3) (va 4) (va 5) v.2.2.1, wEx G (va 6) (va 7) (va 8) (va 9) v.2.2.2.1, wPe G (va 10) (va 11) (va 12) v.2.2.2.2.1, wAu G (va 13) (va 14) (va 15) (va 16) (va 17) (va 18) (va 19) v.2.2.2.2.2]) [.ref qh0, .int x] (some (.int ((f_X9_hoursUntilUnlockedByDays q v x).2))) ((f_X9_hoursUntilUnlockedByDays q v x).1 = "" ∧ True) (fun E => E = (f_X9_hoursUntilUnlockedByDays q v x).1 ∧ E ≠ "") := by
  refine xr_start (by decide +kernel) (Nat.le_of_ble_eq_true rfl) ?_
  intro p e s m below meth c hx hb hr hml hts hown hlk hxt hP hK hST ls hl
  have hS : va_S (fun _ => False) s.heap s.heap [] := va_S.rf
  have hown : s.vm.findClass RX9 = some m.cls := hown
  have hl : lv_has ls 3 [(0, .ref qh0), (1, .int x)] := hl
  have hF : f_X9_hoursUntilUnlockedByDays q v x = (if (f_X9_requireDoor q v x) = "" then (if (f_X8_lookDayByDay v x) = (-1 : Int32) then (if (f_X9_requireElement (0 : Int32)) = "" then ("", (f_X8_lookDayByDay v x)) else ((f_X9_requireElement (0 : Int32)), 0)) else (if (f_X9_requireElement (1 : Int32)) = "" then ("", (f_X8_lookDayByDay v x)) else ((f_X9_requireElement (1 : Int32)), 0))) else ((f_X9_requireDoor q v x), 0)) := rfl
  refine lv_aload_n hx hb dX9_hoursUntilUnlockedByDays_0 rfl (lv_at hl 0 rfl) ?_
  refine lv_iload_n hx hb dX9_hoursUntilUnlockedByDays_1 rfl (lv_at hl 1 rfl) ?_
  refine xr_V (own := RX9) (v := none) (st1 := []) (As := [.int x]) (rest := []) (c_X9_requireDoor l hlf G qh0 q_snapshot q_history q_program q_notice va q v x) ⟨hx, hb, hml, hown, hts⟩ g_X9_73 hdv_X9_requireDoor hK hST hS hP [0, 1, 2, 3, 4, 5, 6, 7, 8, 9, 10, 11, 12, 13, 14, 15, 16, 17, 18, 19, 20] rfl (k0 := 0) rfl rfl rfl ⟨Nat.le_of_ble_eq_true rfl, Nat.le_of_ble_eq_true rfl⟩ ⟨Nat.le_of_ble_eq_true rfl, Nat.le_of_ble_eq_true rfl⟩ rfl hl.1 rfl (Nat.le_of_ble_eq_true rfl) dX9_hoursUntilUnlockedByDays_2 rfl (fun E ce q9 H1 hE h1 h2 h3 h4 h5 => xr_out hxt hlk h3 h4 h5 h1 h2 rfl ⟨hE.1.trans (congrArg Prod.fst (hF.trans (if_neg (fun e => hE.2 (hE.1.trans e))))).symm, hE.2⟩ (Nat.le_of_ble_eq_true rfl) (Nat.le_of_ble_eq_true rfl)) (fun b_1 => ?_)
  have hE := b_1.1
  have b_1 := b_1.2
  have hF := hF.trans (if_pos hE)
  refine lv_aload_n hx hb dX9_hoursUntilUnlockedByDays_5 rfl (lv_at hl 0 rfl) ?_
  refine va_get (D := G.1) (ci := 11) (v := .ref (va 0)) (C := RX9) (T := TX9) (N := 8) hx hb hts uws_X9 hown hK hP 0 rfl rfl 0 (by decide) (hts _ u_1097) (fun _ h9 => h9) rfl dX9_hoursUntilUnlockedByDays_6 ?_
  refine lv_iload_n hx hb dX9_hoursUntilUnlockedByDays_9 rfl (lv_at hl 1 rfl) ?_
  refine r_V (own := RX9) (v := (some (.int (f_X8_lookDayByDay v x)))) (st1 := [.int (f_X8_lookDayByDay v x)]) (As := [.int x]) (rest := []) (c_X8_lookDayByDay l G va v x) ⟨hx, hb, hml, hown, hts⟩ g_X9_234 hdv_X8_lookDayByDay hK hST hS hP [1, 2, 3, 4, 5, 6, 7, 8, 9, 10, 11, 12, 13, 14, 15, 16, 17, 18, 19, 20] rfl (k0 := 0) rfl rfl rfl ⟨Nat.le_of_ble_eq_true rfl, Nat.le_of_ble_eq_true rfl⟩ ⟨Nat.le_of_ble_eq_true rfl, Nat.le_of_ble_eq_true rfl⟩ rfl hl.1 rfl (Nat.le_of_ble_eq_true rfl) dX9_hoursUntilUnlockedByDays_10 rfl (fun b_2 => ?_)
  refine lv_istore_n (lv' := [(2, .int (f_X8_lookDayByDay v x)), (0, .ref qh0), (1, .int x)]) hx hb dX9_hoursUntilUnlockedByDays_13 rfl hl (by decide) rfl (fun ls hl => ?_)
  refine lv_iload_n hx hb dX9_hoursUntilUnlockedByDays_14 rfl (lv_at hl 0 rfl) ?_
  refine lv_iconst (v := (-1 : Int32)) hx hb dX9_hoursUntilUnlockedByDays_15 (by decide) ?_
  refine lv_icmp_eq (tgt := 23) hx hb dX9_hoursUntilUnlockedByDays_16 (by decide) (fun c_3 => ?_) (fun c_3 => ?_)
  · have hF := hF.trans (if_pos c_3)
    refine lv_iconst (v := (0 : Int32)) hx hb dX9_hoursUntilUnlockedByDays_23 (by decide) ?_
    refine xr_S (own := RX9) (v := none) (st1 := []) (As := [.int (0 : Int32)]) (rest := []) (c_X9_requireElement l hlf G (0 : Int32)) ⟨hx, hb, hml, hown, hts⟩ g_X9_141 hds_X9_requireElement hK hST hS hP [] rfl ⟨Nat.le_of_ble_eq_true rfl, Nat.le_of_ble_eq_true rfl⟩ ⟨Nat.le_of_ble_eq_true rfl, Nat.le_of_ble_eq_true rfl⟩ rfl hl.1 rfl (Nat.le_of_ble_eq_true rfl) dX9_hoursUntilUnlockedByDays_24 rfl (fun E ce q9 H1 hE h1 h2 h3 h4 h5 => xr_out hxt hlk h3 h4 h5 h1 h2 rfl ⟨hE.1.trans (congrArg Prod.fst (hF.trans (if_neg (fun e => hE.2 (hE.1.trans e))))).symm, hE.2⟩ (Nat.le_of_ble_eq_true rfl) (Nat.le_of_ble_eq_true rfl)) (fun b_4 => ?_)
    have hE := b_4.1
    have b_4 := b_4.2
    have hF := hF.trans (if_pos hE)
    refine lv_iload_n hx hb dX9_hoursUntilUnlockedByDays_27 rfl (lv_at hl 0 rfl) ?_
    exact x_retI hx hb hr hlk rfl (by rw [hF]) ⟨congrArg Prod.fst hF, trivial⟩ (Nat.le_of_ble_eq_true rfl) (Nat.le_of_ble_eq_true rfl) dX9_hoursUntilUnlockedByDays_28
  · have hF := hF.trans (if_neg c_3)
    refine lv_iconst (v := (1 : Int32)) hx hb dX9_hoursUntilUnlockedByDays_19 (by decide) ?_
    refine lv_goto (tgt := 24) hx hb dX9_hoursUntilUnlockedByDays_20 (by decide) ?_
    refine xr_S (own := RX9) (v := none) (st1 := []) (As := [.int (1 : Int32)]) (rest := []) (c_X9_requireElement l hlf G (1 : Int32)) ⟨hx, hb, hml, hown, hts⟩ g_X9_141 hds_X9_requireElement hK hST hS hP [] rfl ⟨Nat.le_of_ble_eq_true rfl, Nat.le_of_ble_eq_true rfl⟩ ⟨Nat.le_of_ble_eq_true rfl, Nat.le_of_ble_eq_true rfl⟩ rfl hl.1 rfl (Nat.le_of_ble_eq_true rfl) dX9_hoursUntilUnlockedByDays_24 rfl (fun E ce q9 H1 hE h1 h2 h3 h4 h5 => xr_out hxt hlk h3 h4 h5 h1 h2 rfl ⟨hE.1.trans (congrArg Prod.fst (hF.trans (if_neg (fun e => hE.2 (hE.1.trans e))))).symm, hE.2⟩ (Nat.le_of_ble_eq_true rfl) (Nat.le_of_ble_eq_true rfl)) (fun b_5 => ?_)
    have hE := b_5.1
    have b_5 := b_5.2
    have hF := hF.trans (if_pos hE)
    refine lv_iload_n hx hb dX9_hoursUntilUnlockedByDays_27 rfl (lv_at hl 0 rfl) ?_
    exact x_retI hx hb hr hlk rfl (by rw [hF]) ⟨congrArg Prod.fst hF, trivial⟩ (Nat.le_of_ble_eq_true rfl) (Nat.le_of_ble_eq_true rfl) dX9_hoursUntilUnlockedByDays_28
theorem dX9_openDoorsFor_0 : decode cX9_openDoorsFor 0 = .ok (.aload_n 0, 1) := by decide +kernel
theorem dX9_openDoorsFor_1 : decode cX9_openDoorsFor 1 = .ok (.iload_n 1, 1) := by decide +kernel
theorem dX9_openDoorsFor_2 : decode cX9_openDoorsFor 2 = .ok (.invokevirtual 189, 3) := by decide +kernel
theorem dX9_openDoorsFor_5 : decode cX9_openDoorsFor 5 = .ok (.aload_n 0, 1) := by decide +kernel
theorem dX9_openDoorsFor_6 : decode cX9_openDoorsFor 6 = .ok (.getfield 10, 3) := by decide +kernel
theorem dX9_openDoorsFor_9 : decode cX9_openDoorsFor 9 = .ok (.iload_n 1, 1) := by decide +kernel
theorem dX9_openDoorsFor_10 : decode cX9_openDoorsFor 10 = .ok (.invokevirtual 240, 3) := by decide +kernel
theorem u_1532 : Cond.methodLink RX9 240 yX8_countOpenDoors ∈ UW := uw 1532 (by decide +kernel) rfl
theorem u_1533 : Cond.instanceMethod yX8_countOpenDoors ∈ UW := uw 1533 (by decide +kernel) rfl
theorem u_1534 : Cond.selects RX8 yX8_countOpenDoors yX8_countOpenDoors ∈ UW := uw 1534 (by decide +kernel) rfl
theorem u_1535 : Cond.code yX8_countOpenDoors cX8_countOpenDoors 4 (some .int) ∈ UW := uw 1535 (by decide +kernel) rfl
theorem g_X9_240 : GoodIn UW (wsV RX9 240 RX8 yX8_countOpenDoors (wsU yX8_countOpenDoors cX8_countOpenDoors 4 (some .int))) := gV u_1532 u_1533 u_1534 u_22 u_1535
theorem hdv_X8_countOpenDoors : yX8_countOpenDoors.cls = RX8 ∧ yX8_countOpenDoors.cls ≠ "java/lang/invoke/MethodHandle" ∧ yX8_countOpenDoors.cls ≠ "java/lang/invoke/VarHandle" ∧ (parseMethodDescriptor yX8_countOpenDoors.desc).map (fun d => d.parameters.length) = some 1 := by decide +kernel
theorem dX9_openDoorsFor_13 : decode cX9_openDoorsFor 13 = .ok (.ireturn, 1) := by decide +kernel
def f_X9_openDoorsFor (q : McV) (v : StV) (x : Int32) : String × Int32 := (if (f_X9_requirePerson q v x) = "" then ("", (f_X8_countOpenDoors v x)) else ((f_X9_requirePerson q v x), 0))
set_option maxHeartbeats 4000000 in
set_option maxRecDepth 100000 in
theorem c_X9_openDoorsFor (l : Launch) (hlf : l.stackTraces = false) (G : GG) (qh0 : Nat) (q_snapshot : Nat) (q_history : Nat) (q_program : Nat) (q_notice : Nat) (va : Nat → Nat) (q : McV) (v : StV) (x : Int32) : xrMet l yX9_openDoorsFor cX9_openDoorsFor 2 (some .int) 9 1 6 G (fl [[(qh0, .inr (11, [.ref (va 0), .ref q_snapshot, .int q.1, .ref q_history, .ref q_program, .ref q_notice, .int q.2.1, .int q.2.2]))], [((va 0), .inr (10, [.int v.1, .int v.2.1, .ref (va 1), .ref (va 6), .ref (va 10), .ref (va 13)]))], wDo G (va 1) (va 2) (va 3) (va 4) (va 5) v.2.2.1, wEx G (va 6) (va 7) (va 8) (va 9) v.2.2.2.1, wPe G (va 10) (va 11) (va 12) v.2.2.2.2.1, wAu G (va 13) (va 14) (va 15) (va 16) (va 17) (va 18) (va 19) v.2.2.2.2.2]) [.ref qh0, .int x] (some (.int ((f_X9_openDoorsFor q v x).2))) ((f_X9_openDoorsFor q v x).1 = "" ∧ True) (fun E => E = (f_X9_openDoorsFor q v x).1 ∧ E ≠ "") := by
  refine xr_start (by decide +kernel) (Nat.le_of_ble_eq_true rfl) ?_
  intro p e s m below meth c hx hb hr hml hts hown hlk hxt hP hK hST ls hl
  have hS : va_S (fun _ => False) s.heap s.heap [] := va_S.rf
  have hown : s.vm.findClass RX9 = some m.cls := hown
  have hl : lv_has ls 2 [(0, .ref qh0), (1, .int x)] := hl
  have hF : f_X9_openDoorsFor q v x = (if (f_X9_requirePerson q v x) = "" then ("", (f_X8_countOpenDoors v x)) else ((f_X9_requirePerson q v x), 0)) := rfl
  refine lv_aload_n hx hb dX9_openDoorsFor_0 rfl (lv_at hl 0 rfl) ?_
  refine lv_iload_n hx hb dX9_openDoorsFor_1 rfl (lv_at hl 1 rfl) ?_
  refine xr_V (own := RX9) (v := none) (st1 := []) (As := [.int x]) (rest := []) (c_X9_requirePerson l hlf G qh0 q_snapshot q_history q_program q_notice va q v x) ⟨hx, hb, hml, hown, hts⟩ g_X9_189 hdv_X9_requirePerson hK hST hS hP [0, 1, 2, 3, 4, 5, 6, 7, 8, 9, 10, 11, 12, 13, 14, 15, 16, 17, 18, 19, 20] rfl (k0 := 0) rfl rfl rfl ⟨Nat.le_of_ble_eq_true rfl, Nat.le_of_ble_eq_true rfl⟩ ⟨Nat.le_of_ble_eq_true rfl, Nat.le_of_ble_eq_true rfl⟩ rfl hl.1 rfl (Nat.le_of_ble_eq_true rfl) dX9_openDoorsFor_2 rfl (fun E ce q9 H1 hE h1 h2 h3 h4 h5 => xr_out hxt hlk h3 h4 h5 h1 h2 rfl ⟨hE.1.trans (congrArg Prod.fst (hF.trans (if_neg (fun e => hE.2 (hE.1.trans e))))).symm, hE.2⟩ (Nat.le_of_ble_eq_true rfl) (Nat.le_of_ble_eq_true rfl)) (fun b_1 => ?_)
  have hE := b_1.1
  have b_1 := b_1.2
  have hF := hF.trans (if_pos hE)
  refine lv_aload_n hx hb dX9_openDoorsFor_5 rfl (lv_at hl 0 rfl) ?_
  refine va_get (D := G.1) (ci := 11) (v := .ref (va 0)) (C := RX9) (T := TX9) (N := 8) hx hb hts uws_X9 hown hK hP 0 rfl rfl 0 (by decide) (hts _ u_1097) (fun _ h9 => h9) rfl dX9_openDoorsFor_6 ?_
  refine lv_iload_n hx hb dX9_openDoorsFor_9 rfl (lv_at hl 1 rfl) ?_
  refine r_V (own := RX9) (v := (some (.int (f_X8_countOpenDoors v x)))) (st1 := [.int (f_X8_countOpenDoors v x)]) (As := [.int x]) (rest := []) (c_X8_countOpenDoors l G va v x) ⟨hx, hb, hml, hown, hts⟩ g_X9_240 hdv_X8_countOpenDoors hK hST hS hP [1, 2, 3, 4, 5, 6, 7, 8, 9, 10, 11, 12, 13, 14, 15, 16, 17, 18, 19, 20] rfl (k0 := 0) rfl rfl rfl ⟨Nat.le_of_ble_eq_true rfl, Nat.le_of_ble_eq_true rfl⟩ ⟨Nat.le_of_ble_eq_true rfl, Nat.le_of_ble_eq_true rfl⟩ rfl hl.1 rfl (Nat.le_of_ble_eq_true rfl) dX9_openDoorsFor_10 rfl (fun b_2 => ?_)
  exact x_retI hx hb hr hlk rfl (by rw [hF]) ⟨congrArg Prod.fst hF, trivial⟩ (Nat.le_of_ble_eq_true rfl) (Nat.le_of_ble_eq_true rfl) dX9_openDoorsFor_13
theorem dX9_loggedPerson_0 : decode cX9_loggedPerson 0 = .ok (.aload_n 0, 1) := by decide +kernel
theorem dX9_loggedPerson_1 : decode cX9_loggedPerson 1 = .ok (.getfield 10, 3) := by decide +kernel
theorem dX9_loggedPerson_4 : decode cX9_loggedPerson 4 = .ok (.getfield 243, 3) := by decide +kernel
theorem u_1034 : Cond.fieldLink RX9 243 "MoonlitDoors$State" "audits" "LMoonlitDoors$Audits;" ∈ UW := uw 1034 (by decide +kernel) rfl
theorem dX9_loggedPerson_7 : decode cX9_loggedPerson 7 = .ok (.iload_n 1, 1) := by decide +kernel
theorem dX9_loggedPerson_8 : decode cX9_loggedPerson 8 = .ok (.invokevirtual 255, 3) := by decide +kernel
theorem u_1481 : Cond.methodLink RX9 255 yX0_remembers ∈ UW := uw 1481 (by decide +kernel) rfl
theorem u_1482 : Cond.instanceMethod yX0_remembers ∈ UW := uw 1482 (by decide +kernel) rfl
theorem u_1483 : Cond.selects RX0 yX0_remembers yX0_remembers ∈ UW := uw 1483 (by decide +kernel) rfl
theorem u_1484 : Cond.code yX0_remembers cX0_remembers 2 (some .boolean) ∈ UW := uw 1484 (by decide +kernel) rfl
theorem g_X9_255 : GoodIn UW (wsV RX9 255 RX0 yX0_remembers (wsU yX0_remembers cX0_remembers 2 (some .boolean))) := gV u_1481 u_1482 u_1483 u_26 u_1484
theorem hdv_X0_remembers : yX0_remembers.cls = RX0 ∧ yX0_remembers.cls ≠ "java/lang/invoke/MethodHandle" ∧ yX0_remembers.cls ≠ "java/lang/invoke/VarHandle" ∧ (parseMethodDescriptor yX0_remembers.desc).map (fun d => d.parameters.length) = some 1 := by decide +kernel
theorem dX9_loggedPerson_11 : decode cX9_loggedPerson 11 = .ok (.invokestatic 141, 3) := by decide +kernel
theorem dX9_loggedPerson_14 : decode cX9_loggedPerson 14 = .ok (.aload_n 0, 1) := by decide +kernel
theorem dX9_loggedPerson_15 : decode cX9_loggedPerson 15 = .ok (.getfield 10, 3) := by decide +kernel
theorem dX9_loggedPerson_18 : decode cX9_loggedPerson 18 = .ok (.getfield 243, 3) := by decide +kernel
theorem dX9_loggedPerson_21 : decode cX9_loggedPerson 21 = .ok (.iload_n 1, 1) := by decide +kernel
theorem dX9_loggedPerson_22 : decode cX9_loggedPerson 22 = .ok (.invokevirtual 258, 3) := by decide +kernel
theorem u_1497 : Cond.methodLink RX9 258 yX0_personAt ∈ UW := uw 1497 (by decide +kernel) rfl
theorem u_1498 : Cond.instanceMethod yX0_personAt ∈ UW := uw 1498 (by decide +kernel) rfl
theorem u_1499 : Cond.selects RX0 yX0_personAt yX0_personAt ∈ UW := uw 1499 (by decide +kernel) rfl
theorem u_1500 : Cond.code yX0_personAt cX0_personAt 2 (some .int) ∈ UW := uw 1500 (by decide +kernel) rfl
theorem g_X9_258 : GoodIn UW (wsV RX9 258 RX0 yX0_personAt (wsU yX0_personAt cX0_personAt 2 (some .int))) := gV u_1497 u_1498 u_1499 u_26 u_1500
theorem hdv_X0_personAt : yX0_personAt.cls = RX0 ∧ yX0_personAt.cls ≠ "java/lang/invoke/MethodHandle" ∧ yX0_personAt.cls ≠ "java/lang/invoke/VarHandle" ∧ (parseMethodDescriptor yX0_personAt.desc).map (fun d => d.parameters.length) = some 1 := by decide +kernel
theorem dX9_loggedPerson_25 : decode cX9_loggedPerson 25 = .ok (.ireturn, 1) := by decide +kernel
def f_X9_loggedPerson (q : McV) (v : StV) (x : Int32) : String × Int32 := (if (f_X9_requireElement (f_X0_remembers v.2.2.2.2.2 x)) = "" then ("", (f_X0_personAt v.2.2.2.2.2 x)) else ((f_X9_requireElement (f_X0_remembers v.2.2.2.2.2 x)), 0))
set_option maxHeartbeats 4000000 in
set_option maxRecDepth 100000 in
theorem c_X9_loggedPerson (l : Launch) (hlf : l.stackTraces = false) (G : GG) (qh0 : Nat) (q_snapshot : Nat) (q_history : Nat) (q_program : Nat) (q_notice : Nat) (va : Nat → Nat) (q : McV) (v : StV) (x : Int32) : xrMet l yX9_loggedPerson cX9_loggedPerson 2 (some .int) 9 1 6 G (fl [[(qh0, .inr (11, [.ref (va 0), .ref q_snapshot, .int q.1, .ref q_history, .ref q_program, .ref q_notice, .int q.2.1, .int q.2.2]))], [((va 0), .inr (10, [.int v.1, .int v.2.1, .ref (va 1), .ref (va 6), .ref (va 10), .ref (va 13)]))], wDo G (va 1) (va 2) (va 3) (va 4) (va 5) v.2.2.1, wEx G (va 6) (va 7) (va 8) (va 9) v.2.2.2.1, wPe G (va 10) (va 11) (va 12) v.2.2.2.2.1, wAu G (va 13) (va 14) (va 15) (va 16) (va 17) (va 18) (va 19) v.2.2.2.2.2]) [.ref qh0, .int x] (some (.int ((f_X9_loggedPerson q v x).2))) ((f_X9_loggedPerson q v x).1 = "" ∧ True) (fun E => E = (f_X9_loggedPerson q v x).1 ∧ E ≠ "") := by
  refine xr_start (by decide +kernel) (Nat.le_of_ble_eq_true rfl) ?_
  intro p e s m below meth c hx hb hr hml hts hown hlk hxt hP hK hST ls hl
  have hS : va_S (fun _ => False) s.heap s.heap [] := va_S.rf
  have hown : s.vm.findClass RX9 = some m.cls := hown
  have hl : lv_has ls 2 [(0, .ref qh0), (1, .int x)] := hl
  have hF : f_X9_loggedPerson q v x = (if (f_X9_requireElement (f_X0_remembers v.2.2.2.2.2 x)) = "" then ("", (f_X0_personAt v.2.2.2.2.2 x)) else ((f_X9_requireElement (f_X0_remembers v.2.2.2.2.2 x)), 0)) := rfl
  refine lv_aload_n hx hb dX9_loggedPerson_0 rfl (lv_at hl 0 rfl) ?_
  refine va_get (D := G.1) (ci := 11) (v := .ref (va 0)) (C := RX9) (T := TX9) (N := 8) hx hb hts uws_X9 hown hK hP 0 rfl rfl 0 (by decide) (hts _ u_1097) (fun _ h9 => h9) rfl dX9_loggedPerson_1 ?_
  refine va_get (D := G.1) (ci := 10) (v := .ref (va 13)) (C := RX8) (T := TX8) (N := 6) hx hb hts uws_X8 hown hK hP 1 rfl rfl 5 (by decide) (hts _ u_1034) (fun _ h9 => h9) rfl dX9_loggedPerson_4 ?_
  refine lv_iload_n hx hb dX9_loggedPerson_7 rfl (lv_at hl 1 rfl) ?_
  refine r_V (own := RX9) (v := (some (.int (f_X0_remembers v.2.2.2.2.2 x)))) (st1 := [.int (f_X0_remembers v.2.2.2.2.2 x)]) (As := [.int x]) (rest := []) (c_X0_remembers l G (va 13) (va 14) (va 15) (va 16) (va 17) (va 18) (va 19) v.2.2.2.2.2 x) ⟨hx, hb, hml, hown, hts⟩ g_X9_255 hdv_X0_remembers hK hST hS hP [14, 15, 16, 17, 18, 19, 20] rfl (k0 := 0) rfl rfl rfl ⟨Nat.le_of_ble_eq_true rfl, Nat.le_of_ble_eq_true rfl⟩ ⟨Nat.le_of_ble_eq_true rfl, Nat.le_of_ble_eq_true rfl⟩ rfl hl.1 rfl (Nat.le_of_ble_eq_true rfl) dX9_loggedPerson_8 rfl (fun b_1 => ?_)
  refine xr_S (own := RX9) (v := none) (st1 := []) (As := [.int (f_X0_remembers v.2.2.2.2.2 x)]) (rest := []) (c_X9_requireElement l hlf G (f_X0_remembers v.2.2.2.2.2 x)) ⟨hx, hb, hml, hown, hts⟩ g_X9_141 hds_X9_requireElement hK hST hS hP [] rfl ⟨Nat.le_of_ble_eq_true rfl, Nat.le_of_ble_eq_true rfl⟩ ⟨Nat.le_of_ble_eq_true rfl, Nat.le_of_ble_eq_true rfl⟩ rfl hl.1 rfl (Nat.le_of_ble_eq_true rfl) dX9_loggedPerson_11 rfl (fun E ce q9 H1 hE h1 h2 h3 h4 h5 => xr_out hxt hlk h3 h4 h5 h1 h2 rfl ⟨hE.1.trans (congrArg Prod.fst (hF.trans (if_neg (fun e => hE.2 (hE.1.trans e))))).symm, hE.2⟩ (Nat.le_of_ble_eq_true rfl) (Nat.le_of_ble_eq_true rfl)) (fun b_2 => ?_)
  have hE := b_2.1
  have b_2 := b_2.2
  have hF := hF.trans (if_pos hE)
  refine lv_aload_n hx hb dX9_loggedPerson_14 rfl (lv_at hl 0 rfl) ?_
  refine va_get (D := G.1) (ci := 11) (v := .ref (va 0)) (C := RX9) (T := TX9) (N := 8) hx hb hts uws_X9 hown hK hP 0 rfl rfl 0 (by decide) (hts _ u_1097) (fun _ h9 => h9) rfl dX9_loggedPerson_15 ?_
  refine va_get (D := G.1) (ci := 10) (v := .ref (va 13)) (C := RX8) (T := TX8) (N := 6) hx hb hts uws_X8 hown hK hP 1 rfl rfl 5 (by decide) (hts _ u_1034) (fun _ h9 => h9) rfl dX9_loggedPerson_18 ?_
  refine lv_iload_n hx hb dX9_loggedPerson_21 rfl (lv_at hl 1 rfl) ?_
  refine r_V (own := RX9) (v := (some (.int (f_X0_personAt v.2.2.2.2.2 x)))) (st1 := [.int (f_X0_personAt v.2.2.2.2.2 x)]) (As := [.int x]) (rest := []) (c_X0_personAt l G (va 13) (va 14) (va 15) (va 16) (va 17) (va 18) (va 19) v.2.2.2.2.2 x) ⟨hx, hb, hml, hown, hts⟩ g_X9_258 hdv_X0_personAt hK hST hS hP [14, 15, 16, 17, 18, 19, 20] rfl (k0 := 0) rfl rfl rfl ⟨Nat.le_of_ble_eq_true rfl, Nat.le_of_ble_eq_true rfl⟩ ⟨Nat.le_of_ble_eq_true rfl, Nat.le_of_ble_eq_true rfl⟩ rfl hl.1 rfl (Nat.le_of_ble_eq_true rfl) dX9_loggedPerson_22 rfl (fun b_3 => ?_)
  exact x_retI hx hb hr hlk rfl (by rw [hF]) ⟨congrArg Prod.fst hF, trivial⟩ (Nat.le_of_ble_eq_true rfl) (Nat.le_of_ble_eq_true rfl) dX9_loggedPerson_25
theorem dX9_loggedDoor_0 : decode cX9_loggedDoor 0 = .ok (.aload_n 0, 1) := by decide +kernel
theorem dX9_loggedDoor_1 : decode cX9_loggedDoor 1 = .ok (.getfield 10, 3) := by decide +kernel
theorem dX9_loggedDoor_4 : decode cX9_loggedDoor 4 = .ok (.getfield 243, 3) := by decide +kernel
theorem dX9_loggedDoor_7 : decode cX9_loggedDoor 7 = .ok (.iload_n 1, 1) := by decide +kernel
theorem dX9_loggedDoor_8 : decode cX9_loggedDoor 8 = .ok (.invokevirtual 255, 3) := by decide +kernel
theorem dX9_loggedDoor_11 : decode cX9_loggedDoor 11 = .ok (.invokestatic 141, 3) := by decide +kernel
theorem dX9_loggedDoor_14 : decode cX9_loggedDoor 14 = .ok (.aload_n 0, 1) := by decide +kernel
theorem dX9_loggedDoor_15 : decode cX9_loggedDoor 15 = .ok (.getfield 10, 3) := by decide +kernel
theorem dX9_loggedDoor_18 : decode cX9_loggedDoor 18 = .ok (.getfield 243, 3) := by decide +kernel
theorem dX9_loggedDoor_21 : decode cX9_loggedDoor 21 = .ok (.iload_n 1, 1) := by decide +kernel
theorem dX9_loggedDoor_22 : decode cX9_loggedDoor 22 = .ok (.invokevirtual 261, 3) := by decide +kernel
theorem u_1505 : Cond.methodLink RX9 261 yX0_doorAt ∈ UW := uw 1505 (by decide +kernel) rfl
theorem u_1506 : Cond.instanceMethod yX0_doorAt ∈ UW := uw 1506 (by decide +kernel) rfl
theorem u_1507 : Cond.selects RX0 yX0_doorAt yX0_doorAt ∈ UW := uw 1507 (by decide +kernel) rfl
theorem u_1508 : Cond.code yX0_doorAt cX0_doorAt 2 (some .int) ∈ UW := uw 1508 (by decide +kernel) rfl
theorem g_X9_261 : GoodIn UW (wsV RX9 261 RX0 yX0_doorAt (wsU yX0_doorAt cX0_doorAt 2 (some .int))) := gV u_1505 u_1506 u_1507 u_26 u_1508
theorem hdv_X0_doorAt : yX0_doorAt.cls = RX0 ∧ yX0_doorAt.cls ≠ "java/lang/invoke/MethodHandle" ∧ yX0_doorAt.cls ≠ "java/lang/invoke/VarHandle" ∧ (parseMethodDescriptor yX0_doorAt.desc).map (fun d => d.parameters.length) = some 1 := by decide +kernel
theorem dX9_loggedDoor_25 : decode cX9_loggedDoor 25 = .ok (.ireturn, 1) := by decide +kernel
def f_X9_loggedDoor (q : McV) (v : StV) (x : Int32) : String × Int32 := (if (f_X9_requireElement (f_X0_remembers v.2.2.2.2.2 x)) = "" then ("", (f_X0_doorAt v.2.2.2.2.2 x)) else ((f_X9_requireElement (f_X0_remembers v.2.2.2.2.2 x)), 0))
set_option maxHeartbeats 4000000 in
set_option maxRecDepth 100000 in
theorem c_X9_loggedDoor (l : Launch) (hlf : l.stackTraces = false) (G : GG) (qh0 : Nat) (q_snapshot : Nat) (q_history : Nat) (q_program : Nat) (q_notice : Nat) (va : Nat → Nat) (q : McV) (v : StV) (x : Int32) : xrMet l yX9_loggedDoor cX9_loggedDoor 2 (some .int) 9 1 6 G (fl [[(qh0, .inr (11, [.ref (va 0), .ref q_snapshot, .int q.1, .ref q_history, .ref q_program, .ref q_notice, .int q.2.1, .int q.2.2]))], [((va 0), .inr (10, [.int v.1, .int v.2.1, .ref (va 1), .ref (va 6), .ref (va 10), .ref (va 13)]))], wDo G (va 1) (va 2) (va 3) (va 4) (va 5) v.2.2.1, wEx G (va 6) (va 7) (va 8) (va 9) v.2.2.2.1, wPe G (va 10) (va 11) (va 12) v.2.2.2.2.1, wAu G (va 13) (va 14) (va 15) (va 16) (va 17) (va 18) (va 19) v.2.2.2.2.2]) [.ref qh0, .int x] (some (.int ((f_X9_loggedDoor q v x).2))) ((f_X9_loggedDoor q v x).1 = "" ∧ True) (fun E => E = (f_X9_loggedDoor q v x).1 ∧ E ≠ "") := by
  refine xr_start (by decide +kernel) (Nat.le_of_ble_eq_true rfl) ?_
  intro p e s m below meth c hx hb hr hml hts hown hlk hxt hP hK hST ls hl
  have hS : va_S (fun _ => False) s.heap s.heap [] := va_S.rf
  have hown : s.vm.findClass RX9 = some m.cls := hown
  have hl : lv_has ls 2 [(0, .ref qh0), (1, .int x)] := hl
  have hF : f_X9_loggedDoor q v x = (if (f_X9_requireElement (f_X0_remembers v.2.2.2.2.2 x)) = "" then ("", (f_X0_doorAt v.2.2.2.2.2 x)) else ((f_X9_requireElement (f_X0_remembers v.2.2.2.2.2 x)), 0)) := rfl
  refine lv_aload_n hx hb dX9_loggedDoor_0 rfl (lv_at hl 0 rfl) ?_
  refine va_get (D := G.1) (ci := 11) (v := .ref (va 0)) (C := RX9) (T := TX9) (N := 8) hx hb hts uws_X9 hown hK hP 0 rfl rfl 0 (by decide) (hts _ u_1097) (fun _ h9 => h9) rfl dX9_loggedDoor_1 ?_
  refine va_get (D := G.1) (ci := 10) (v := .ref (va 13)) (C := RX8) (T := TX8) (N := 6) hx hb hts uws_X8 hown hK hP 1 rfl rfl 5 (by decide) (hts _ u_1034) (fun _ h9 => h9) rfl dX9_loggedDoor_4 ?_
  refine lv_iload_n hx hb dX9_loggedDoor_7 rfl (lv_at hl 1 rfl) ?_
  refine r_V (own := RX9) (v := (some (.int (f_X0_remembers v.2.2.2.2.2 x)))) (st1 := [.int (f_X0_remembers v.2.2.2.2.2 x)]) (As := [.int x]) (rest := []) (c_X0_remembers l G (va 13) (va 14) (va 15) (va 16) (va 17) (va 18) (va 19) v.2.2.2.2.2 x) ⟨hx, hb, hml, hown, hts⟩ g_X9_255 hdv_X0_remembers hK hST hS hP [14, 15, 16, 17, 18, 19, 20] rfl (k0 := 0) rfl rfl rfl ⟨Nat.le_of_ble_eq_true rfl, Nat.le_of_ble_eq_true rfl⟩ ⟨Nat.le_of_ble_eq_true rfl, Nat.le_of_ble_eq_true rfl⟩ rfl hl.1 rfl (Nat.le_of_ble_eq_true rfl) dX9_loggedDoor_8 rfl (fun b_1 => ?_)
  refine xr_S (own := RX9) (v := none) (st1 := []) (As := [.int (f_X0_remembers v.2.2.2.2.2 x)]) (rest := []) (c_X9_requireElement l hlf G (f_X0_remembers v.2.2.2.2.2 x)) ⟨hx, hb, hml, hown, hts⟩ g_X9_141 hds_X9_requireElement hK hST hS hP [] rfl ⟨Nat.le_of_ble_eq_true rfl, Nat.le_of_ble_eq_true rfl⟩ ⟨Nat.le_of_ble_eq_true rfl, Nat.le_of_ble_eq_true rfl⟩ rfl hl.1 rfl (Nat.le_of_ble_eq_true rfl) dX9_loggedDoor_11 rfl (fun E ce q9 H1 hE h1 h2 h3 h4 h5 => xr_out hxt hlk h3 h4 h5 h1 h2 rfl ⟨hE.1.trans (congrArg Prod.fst (hF.trans (if_neg (fun e => hE.2 (hE.1.trans e))))).symm, hE.2⟩ (Nat.le_of_ble_eq_true rfl) (Nat.le_of_ble_eq_true rfl)) (fun b_2 => ?_)
  have hE := b_2.1
  have b_2 := b_2.2
  have hF := hF.trans (if_pos hE)
  refine lv_aload_n hx hb dX9_loggedDoor_14 rfl (lv_at hl 0 rfl) ?_
  refine va_get (D := G.1) (ci := 11) (v := .ref (va 0)) (C := RX9) (T := TX9) (N := 8) hx hb hts uws_X9 hown hK hP 0 rfl rfl 0 (by decide) (hts _ u_1097) (fun _ h9 => h9) rfl dX9_loggedDoor_15 ?_
  refine va_get (D := G.1) (ci := 10) (v := .ref (va 13)) (C := RX8) (T := TX8) (N := 6) hx hb hts uws_X8 hown hK hP 1 rfl rfl 5 (by decide) (hts _ u_1034) (fun _ h9 => h9) rfl dX9_loggedDoor_18 ?_
  refine lv_iload_n hx hb dX9_loggedDoor_21 rfl (lv_at hl 1 rfl) ?_
  refine r_V (own := RX9) (v := (some (.int (f_X0_doorAt v.2.2.2.2.2 x)))) (st1 := [.int (f_X0_doorAt v.2.2.2.2.2 x)]) (As := [.int x]) (rest := []) (c_X0_doorAt l G (va 13) (va 14) (va 15) (va 16) (va 17) (va 18) (va 19) v.2.2.2.2.2 x) ⟨hx, hb, hml, hown, hts⟩ g_X9_261 hdv_X0_doorAt hK hST hS hP [14, 15, 16, 17, 18, 19, 20] rfl (k0 := 0) rfl rfl rfl ⟨Nat.le_of_ble_eq_true rfl, Nat.le_of_ble_eq_true rfl⟩ ⟨Nat.le_of_ble_eq_true rfl, Nat.le_of_ble_eq_true rfl⟩ rfl hl.1 rfl (Nat.le_of_ble_eq_true rfl) dX9_loggedDoor_22 rfl (fun b_3 => ?_)
  exact x_retI hx hb hr hlk rfl (by rw [hF]) ⟨congrArg Prod.fst hF, trivial⟩ (Nat.le_of_ble_eq_true rfl) (Nat.le_of_ble_eq_true rfl) dX9_loggedDoor_25
theorem dX9_loggedResult_0 : decode cX9_loggedResult 0 = .ok (.aload_n 0, 1) := by decide +kernel
theorem dX9_loggedResult_1 : decode cX9_loggedResult 1 = .ok (.getfield 10, 3) := by decide +kernel
theorem dX9_loggedResult_4 : decode cX9_loggedResult 4 = .ok (.getfield 243, 3) := by decide +kernel
theorem dX9_loggedResult_7 : decode cX9_loggedResult 7 = .ok (.iload_n 1, 1) := by decide +kernel
theorem dX9_loggedResult_8 : decode cX9_loggedResult 8 = .ok (.invokevirtual 255, 3) := by decide +kernel
theorem dX9_loggedResult_11 : decode cX9_loggedResult 11 = .ok (.invokestatic 141, 3) := by decide +kernel
theorem dX9_loggedResult_14 : decode cX9_loggedResult 14 = .ok (.aload_n 0, 1) := by decide +kernel
theorem dX9_loggedResult_15 : decode cX9_loggedResult 15 = .ok (.getfield 10, 3) := by decide +kernel
theorem dX9_loggedResult_18 : decode cX9_loggedResult 18 = .ok (.getfield 243, 3) := by decide +kernel
theorem dX9_loggedResult_21 : decode cX9_loggedResult 21 = .ok (.iload_n 1, 1) := by decide +kernel
theorem dX9_loggedResult_22 : decode cX9_loggedResult 22 = .ok (.invokevirtual 262, 3) := by decide +kernel
theorem u_1485 : Cond.methodLink RX9 262 yX0_resultAt ∈ UW := uw 1485 (by decide +kernel) rfl
theorem u_1486 : Cond.instanceMethod yX0_resultAt ∈ UW := uw 1486 (by decide +kernel) rfl
theorem u_1487 : Cond.selects RX0 yX0_resultAt yX0_resultAt ∈ UW := uw 1487 (by decide +kernel) rfl
theorem u_1488 : Cond.code yX0_resultAt cX0_resultAt 2 (some .int) ∈ UW := uw 1488 (by decide +kernel) rfl
theorem g_X9_262 : GoodIn UW (wsV RX9 262 RX0 yX0_resultAt (wsU yX0_resultAt cX0_resultAt 2 (some .int))) := gV u_1485 u_1486 u_1487 u_26 u_1488
theorem hdv_X0_resultAt : yX0_resultAt.cls = RX0 ∧ yX0_resultAt.cls ≠ "java/lang/invoke/MethodHandle" ∧ yX0_resultAt.cls ≠ "java/lang/invoke/VarHandle" ∧ (parseMethodDescriptor yX0_resultAt.desc).map (fun d => d.parameters.length) = some 1 := by decide +kernel
theorem dX9_loggedResult_25 : decode cX9_loggedResult 25 = .ok (.ireturn, 1) := by decide +kernel
def f_X9_loggedResult (q : McV) (v : StV) (x : Int32) : String × Int32 := (if (f_X9_requireElement (f_X0_remembers v.2.2.2.2.2 x)) = "" then ("", (f_X0_resultAt v.2.2.2.2.2 x)) else ((f_X9_requireElement (f_X0_remembers v.2.2.2.2.2 x)), 0))
set_option maxHeartbeats 4000000 in
set_option maxRecDepth 100000 in
theorem c_X9_loggedResult (l : Launch) (hlf : l.stackTraces = false) (G : GG) (qh0 : Nat) (q_snapshot : Nat) (q_history : Nat) (q_program : Nat) (q_notice : Nat) (va : Nat → Nat) (q : McV) (v : StV) (x : Int32) : xrMet l yX9_loggedResult cX9_loggedResult 2 (some .int) 9 1 6 G (fl [[(qh0, .inr (11, [.ref (va 0), .ref q_snapshot, .int q.1, .ref q_history, .ref q_program, .ref q_notice, .int q.2.1, .int q.2.2]))], [((va 0), .inr (10, [.int v.1, .int v.2.1, .ref (va 1), .ref (va 6), .ref (va 10), .ref (va 13)]))], wDo G (va 1) (va 2) (va 3) (va 4) (va 5) v.2.2.1, wEx G (va 6) (va 7) (va 8) (va 9) v.2.2.2.1, wPe G (va 10) (va 11) (va 12) v.2.2.2.2.1, wAu G (va 13) (va 14) (va 15) (va 16) (va 17) (va 18) (va 19) v.2.2.2.2.2]) [.ref qh0, .int x] (some (.int ((f_X9_loggedResult q v x).2))) ((f_X9_loggedResult q v x).1 = "" ∧ True) (fun E => E = (f_X9_loggedResult q v x).1 ∧ E ≠ "") := by
  refine xr_start (by decide +kernel) (Nat.le_of_ble_eq_true rfl) ?_
  intro p e s m below meth c hx hb hr hml hts hown hlk hxt hP hK hST ls hl
  have hS : va_S (fun _ => False) s.heap s.heap [] := va_S.rf
  have hown : s.vm.findClass RX9 = some m.cls := hown
  have hl : lv_has ls 2 [(0, .ref qh0), (1, .int x)] := hl
  have hF : f_X9_loggedResult q v x = (if (f_X9_requireElement (f_X0_remembers v.2.2.2.2.2 x)) = "" then ("", (f_X0_resultAt v.2.2.2.2.2 x)) else ((f_X9_requireElement (f_X0_remembers v.2.2.2.2.2 x)), 0)) := rfl
  refine lv_aload_n hx hb dX9_loggedResult_0 rfl (lv_at hl 0 rfl) ?_
  refine va_get (D := G.1) (ci := 11) (v := .ref (va 0)) (C := RX9) (T := TX9) (N := 8) hx hb hts uws_X9 hown hK hP 0 rfl rfl 0 (by decide) (hts _ u_1097) (fun _ h9 => h9) rfl dX9_loggedResult_1 ?_
  refine va_get (D := G.1) (ci := 10) (v := .ref (va 13)) (C := RX8) (T := TX8) (N := 6) hx hb hts uws_X8 hown hK hP 1 rfl rfl 5 (by decide) (hts _ u_1034) (fun _ h9 => h9) rfl dX9_loggedResult_4 ?_
  refine lv_iload_n hx hb dX9_loggedResult_7 rfl (lv_at hl 1 rfl) ?_
  refine r_V (own := RX9) (v := (some (.int (f_X0_remembers v.2.2.2.2.2 x)))) (st1 := [.int (f_X0_remembers v.2.2.2.2.2 x)]) (As := [.int x]) (rest := []) (c_X0_remembers l G (va 13) (va 14) (va 15) (va 16) (va 17) (va 18) (va 19) v.2.2.2.2.2 x) ⟨hx, hb, hml, hown, hts⟩ g_X9_255 hdv_X0_remembers hK hST hS hP [14, 15, 16, 17, 18, 19, 20] rfl (k0 := 0) rfl rfl rfl ⟨Nat.le_of_ble_eq_true rfl, Nat.le_of_ble_eq_true rfl⟩ ⟨Nat.le_of_ble_eq_true rfl, Nat.le_of_ble_eq_true rfl⟩ rfl hl.1 rfl (Nat.le_of_ble_eq_true rfl) dX9_loggedResult_8 rfl (fun b_1 => ?_)
  refine xr_S (own := RX9) (v := none) (st1 := []) (As := [.int (f_X0_remembers v.2.2.2.2.2 x)]) (rest := []) (c_X9_requireElement l hlf G (f_X0_remembers v.2.2.2.2.2 x)) ⟨hx, hb, hml, hown, hts⟩ g_X9_141 hds_X9_requireElement hK hST hS hP [] rfl ⟨Nat.le_of_ble_eq_true rfl, Nat.le_of_ble_eq_true rfl⟩ ⟨Nat.le_of_ble_eq_true rfl, Nat.le_of_ble_eq_true rfl⟩ rfl hl.1 rfl (Nat.le_of_ble_eq_true rfl) dX9_loggedResult_11 rfl (fun E ce q9 H1 hE h1 h2 h3 h4 h5 => xr_out hxt hlk h3 h4 h5 h1 h2 rfl ⟨hE.1.trans (congrArg Prod.fst (hF.trans (if_neg (fun e => hE.2 (hE.1.trans e))))).symm, hE.2⟩ (Nat.le_of_ble_eq_true rfl) (Nat.le_of_ble_eq_true rfl)) (fun b_2 => ?_)
  have hE := b_2.1
  have b_2 := b_2.2
  have hF := hF.trans (if_pos hE)
  refine lv_aload_n hx hb dX9_loggedResult_14 rfl (lv_at hl 0 rfl) ?_
  refine va_get (D := G.1) (ci := 11) (v := .ref (va 0)) (C := RX9) (T := TX9) (N := 8) hx hb hts uws_X9 hown hK hP 0 rfl rfl 0 (by decide) (hts _ u_1097) (fun _ h9 => h9) rfl dX9_loggedResult_15 ?_
  refine va_get (D := G.1) (ci := 10) (v := .ref (va 13)) (C := RX8) (T := TX8) (N := 6) hx hb hts uws_X8 hown hK hP 1 rfl rfl 5 (by decide) (hts _ u_1034) (fun _ h9 => h9) rfl dX9_loggedResult_18 ?_
  refine lv_iload_n hx hb dX9_loggedResult_21 rfl (lv_at hl 1 rfl) ?_
  refine r_V (own := RX9) (v := (some (.int (f_X0_resultAt v.2.2.2.2.2 x)))) (st1 := [.int (f_X0_resultAt v.2.2.2.2.2 x)]) (As := [.int x]) (rest := []) (c_X0_resultAt l G (va 13) (va 14) (va 15) (va 16) (va 17) (va 18) (va 19) v.2.2.2.2.2 x) ⟨hx, hb, hml, hown, hts⟩ g_X9_262 hdv_X0_resultAt hK hST hS hP [14, 15, 16, 17, 18, 19, 20] rfl (k0 := 0) rfl rfl rfl ⟨Nat.le_of_ble_eq_true rfl, Nat.le_of_ble_eq_true rfl⟩ ⟨Nat.le_of_ble_eq_true rfl, Nat.le_of_ble_eq_true rfl⟩ rfl hl.1 rfl (Nat.le_of_ble_eq_true rfl) dX9_loggedResult_22 rfl (fun b_3 => ?_)
  exact x_retI hx hb hr hlk rfl (by rw [hF]) ⟨congrArg Prod.fst hF, trivial⟩ (Nat.le_of_ble_eq_true rfl) (Nat.le_of_ble_eq_true rfl) dX9_loggedResult_25
theorem dX9_attemptsWith_0 : decode cX9_attemptsWith 0 = .ok (.iload_n 1, 1) := by decide +kernel
theorem dX9_attemptsWith_1 : decode cX9_attemptsWith 1 = .ok (.iconst 0, 1) := by decide +kernel
theorem dX9_attemptsWith_2 : decode cX9_attemptsWith 2 = .ok (.iconst 4, 1) := by decide +kernel
theorem dX9_attemptsWith_3 : decode cX9_attemptsWith 3 = .ok (.invokestatic 122, 3) := by decide +kernel
theorem dX9_attemptsWith_6 : decode cX9_attemptsWith 6 = .ok (.aload_n 0, 1) := by decide +kernel
theorem dX9_attemptsWith_7 : decode cX9_attemptsWith 7 = .ok (.getfield 10, 3) := by decide +kernel
theorem dX9_attemptsWith_10 : decode cX9_attemptsWith 10 = .ok (.getfield 243, 3) := by decide +kernel
theorem dX9_attemptsWith_13 : decode cX9_attemptsWith 13 = .ok (.iload_n 1, 1) := by decide +kernel
theorem dX9_attemptsWith_14 : decode cX9_attemptsWith 14 = .ok (.invokevirtual 265, 3) := by decide +kernel
theorem u_1419 : Cond.methodLink RX9 265 yX0_countResults ∈ UW := uw 1419 (by decide +kernel) rfl
theorem u_1420 : Cond.instanceMethod yX0_countResults ∈ UW := uw 1420 (by decide +kernel) rfl
theorem u_1421 : Cond.selects RX0 yX0_countResults yX0_countResults ∈ UW := uw 1421 (by decide +kernel) rfl
theorem u_1422 : Cond.code yX0_countResults cX0_countResults 2 (some .int) ∈ UW := uw 1422 (by decide +kernel) rfl
theorem g_X9_265 : GoodIn UW (wsV RX9 265 RX0 yX0_countResults (wsU yX0_countResults cX0_countResults 2 (some .int))) := gV u_1419 u_1420 u_1421 u_26 u_1422
theorem hdv_X0_countResults : yX0_countResults.cls = RX0 ∧ yX0_countResults.cls ≠ "java/lang/invoke/MethodHandle" ∧ yX0_countResults.cls ≠ "java/lang/invoke/VarHandle" ∧ (parseMethodDescriptor yX0_countResults.desc).map (fun d => d.parameters.length) = some 1 := by decide +kernel
theorem dX9_attemptsWith_17 : decode cX9_attemptsWith 17 = .ok (.ireturn, 1) := by decide +kernel
def f_X9_attemptsWith (q : McV) (v : StV) (x : Int32) : String × Int32 := (if (f_X9_requireRange x (0 : Int32) (4 : Int32)) = "" then ("", (f_X0_countResults v.2.2.2.2.2 x)) else ((f_X9_requireRange x (0 : Int32) (4 : Int32)), 0))
set_option maxHeartbeats 4000000 in
set_option maxRecDepth 100000 in
theorem c_X9_attemptsWith (l : Launch) (hlf : l.stackTraces = false) (G : GG) (qh0 : Nat) (q_snapshot : Nat) (q_history : Nat) (q_program : Nat) (q_notice : Nat) (va : Nat → Nat) (q : McV) (v : StV) (x : Int32) : xrMet l yX9_attemptsWith cX9_attemptsWith 2 (some .int) 9 1 6 G (fl [[(qh0, .inr (11, [.ref (va 0), .ref q_snapshot, .int q.1, .ref q_history, .ref q_program, .ref q_notice, .int q.2.1, .int q.2.2]))], [((va 0), .inr (10, [.int v.1, .int v.2.1, .ref (va 1), .ref (va 6), .ref (va 10), .ref (va 13)]))], wDo G (va 1) (va 2) (va 3) (va 4) (va 5) v.2.2.1, wEx G (va 6) (va 7) (va 8) (va 9) v.2.2.2.1, wPe G (va 10) (va 11) (va 12) v.2.2.2.2.1, wAu G (va 13) (va 14) (va 15) (va 16) (va 17) (va 18) (va 19) v.2.2.2.2.2]) [.ref qh0, .int x] (some (.int ((f_X9_attemptsWith q v x).2))) ((f_X9_attemptsWith q v x).1 = "" ∧ True) (fun E => E = (f_X9_attemptsWith q v x).1 ∧ E ≠ "") := by
  refine xr_start (by decide +kernel) (Nat.le_of_ble_eq_true rfl) ?_
  intro p e s m below meth c hx hb hr hml hts hown hlk hxt hP hK hST ls hl
  have hS : va_S (fun _ => False) s.heap s.heap [] := va_S.rf
  have hown : s.vm.findClass RX9 = some m.cls := hown
  have hl : lv_has ls 2 [(0, .ref qh0), (1, .int x)] := hl
  have hF : f_X9_attemptsWith q v x = (if (f_X9_requireRange x (0 : Int32) (4 : Int32)) = "" then ("", (f_X0_countResults v.2.2.2.2.2 x)) else ((f_X9_requireRange x (0 : Int32) (4 : Int32)), 0)) := rfl
  refine lv_iload_n hx hb dX9_attemptsWith_0 rfl (lv_at hl 1 rfl) ?_
  refine lv_iconst (v := (0 : Int32)) hx hb dX9_attemptsWith_1 (by decide) ?_
  refine lv_iconst (v := (4 : Int32)) hx hb dX9_attemptsWith_2 (by decide) ?_
  refine xr_S (own := RX9) (v := none) (st1 := []) (As := [.int x, .int (0 : Int32), .int (4 : Int32)]) (rest := []) (c_X9_requireRange l hlf G x (0 : Int32) (4 : Int32)) ⟨hx, hb, hml, hown, hts⟩ g_X9_122 hds_X9_requireRange hK hST hS hP [] rfl ⟨Nat.le_of_ble_eq_true rfl, Nat.le_of_ble_eq_true rfl⟩ ⟨Nat.le_of_ble_eq_true rfl, Nat.le_of_ble_eq_true rfl⟩ rfl hl.1 rfl (Nat.le_of_ble_eq_true rfl) dX9_attemptsWith_3 rfl (fun E ce q9 H1 hE h1 h2 h3 h4 h5 => xr_out hxt hlk h3 h4 h5 h1 h2 rfl ⟨hE.1.trans (congrArg Prod.fst (hF.trans (if_neg (fun e => hE.2 (hE.1.trans e))))).symm, hE.2⟩ (Nat.le_of_ble_eq_true rfl) (Nat.le_of_ble_eq_true rfl)) (fun b_1 => ?_)
  have hE := b_1.1
  have b_1 := b_1.2
  have hF := hF.trans (if_pos hE)
  refine lv_aload_n hx hb dX9_attemptsWith_6 rfl (lv_at hl 0 rfl) ?_
  refine va_get (D := G.1) (ci := 11) (v := .ref (va 0)) (C := RX9) (T := TX9) (N := 8) hx hb hts uws_X9 hown hK hP 0 rfl rfl 0 (by decide) (hts _ u_1097) (fun _ h9 => h9) rfl dX9_attemptsWith_7 ?_
  refine va_get (D := G.1) (ci := 10) (v := .ref (va 13)) (C := RX8) (T := TX8) (N := 6) hx hb hts uws_X8 hown hK hP 1 rfl rfl 5 (by decide) (hts _ u_1034) (fun _ h9 => h9) rfl dX9_attemptsWith_10 ?_
  refine lv_iload_n hx hb dX9_attemptsWith_13 rfl (lv_at hl 1 rfl) ?_
  refine r_V (own := RX9) (v := (some (.int (f_X0_countResults v.2.2.2.2.2 x)))) (st1 := [.int (f_X0_countResults v.2.2.2.2.2 x)]) (As := [.int x]) (rest := []) (c_X0_countResults l G (va 13) (va 14) (va 15) (va 16) (va 17) (va 18) (va 19) v.2.2.2.2.2 x) ⟨hx, hb, hml, hown, hts⟩ g_X9_265 hdv_X0_countResults hK hST hS hP [14, 15, 16, 17, 18, 19, 20] rfl (k0 := 0) rfl rfl rfl ⟨Nat.le_of_ble_eq_true rfl, Nat.le_of_ble_eq_true rfl⟩ ⟨Nat.le_of_ble_eq_true rfl, Nat.le_of_ble_eq_true rfl⟩ rfl hl.1 rfl (Nat.le_of_ble_eq_true rfl) dX9_attemptsWith_14 rfl (fun b_2 => ?_)
  exact x_retI hx hb hr hlk rfl (by rw [hF]) ⟨congrArg Prod.fst hF, trivial⟩ (Nat.le_of_ble_eq_true rfl) (Nat.le_of_ble_eq_true rfl) dX9_attemptsWith_17
theorem dX9_unlockedHours_0 : decode cX9_unlockedHours 0 = .ok (.aload_n 0, 1) := by decide +kernel
theorem dX9_unlockedHours_1 : decode cX9_unlockedHours 1 = .ok (.iload_n 1, 1) := by decide +kernel
theorem dX9_unlockedHours_2 : decode cX9_unlockedHours 2 = .ok (.invokevirtual 73, 3) := by decide +kernel
theorem dX9_unlockedHours_5 : decode cX9_unlockedHours 5 = .ok (.iload_n 2, 1) := by decide +kernel
theorem dX9_unlockedHours_6 : decode cX9_unlockedHours 6 = .ok (.iconst 1, 1) := by decide +kernel
theorem dX9_unlockedHours_7 : decode cX9_unlockedHours 7 = .ok (.bipush 99, 2) := by decide +kernel
theorem dX9_unlockedHours_9 : decode cX9_unlockedHours 9 = .ok (.invokestatic 122, 3) := by decide +kernel
theorem dX9_unlockedHours_12 : decode cX9_unlockedHours 12 = .ok (.aload_n 0, 1) := by decide +kernel
theorem dX9_unlockedHours_13 : decode cX9_unlockedHours 13 = .ok (.getfield 10, 3) := by decide +kernel
theorem dX9_unlockedHours_16 : decode cX9_unlockedHours 16 = .ok (.iload_n 1, 1) := by decide +kernel
theorem dX9_unlockedHours_17 : decode cX9_unlockedHours 17 = .ok (.iload_n 2, 1) := by decide +kernel
theorem dX9_unlockedHours_18 : decode cX9_unlockedHours 18 = .ok (.invokevirtual 237, 3) := by decide +kernel
theorem u_861 : Cond.methodLink RX9 237 yX8_countUnlockedHours ∈ UW := uw 861 (by decide +kernel) rfl
theorem u_862 : Cond.instanceMethod yX8_countUnlockedHours ∈ UW := uw 862 (by decide +kernel) rfl
theorem u_863 : Cond.selects RX8 yX8_countUnlockedHours yX8_countUnlockedHours ∈ UW := uw 863 (by decide +kernel) rfl
theorem u_864 : Cond.code yX8_countUnlockedHours cX8_countUnlockedHours 5 (some .int) ∈ UW := uw 864 (by decide +kernel) rfl
theorem g_X9_237 : GoodIn UW (wsV RX9 237 RX8 yX8_countUnlockedHours (wsU yX8_countUnlockedHours cX8_countUnlockedHours 5 (some .int))) := gV u_861 u_862 u_863 u_22 u_864
theorem hdv_X8_countUnlockedHours : yX8_countUnlockedHours.cls = RX8 ∧ yX8_countUnlockedHours.cls ≠ "java/lang/invoke/MethodHandle" ∧ yX8_countUnlockedHours.cls ≠ "java/lang/invoke/VarHandle" ∧ (parseMethodDescriptor yX8_countUnlockedHours.desc).map (fun d => d.parameters.length) = some 2 := by decide +kernel
theorem dX9_unlockedHours_21 : decode cX9_unlockedHours 21 = .ok (.ireturn, 1) := by decide +kernel
def f_X9_unlockedHours (q : McV) (v : StV) (x : Int32) (y : Int32) : String × Int32 := (if (f_X9_requireDoor q v x) = "" then (if (f_X9_requireRange y (1 : Int32) (99 : Int32)) = "" then ("", (f_X8_countUnlockedHours v x y)) else ((f_X9_requireRange y (1 : Int32) (99 : Int32)), 0)) else ((f_X9_requireDoor q v x), 0))
set_option maxHeartbeats 4000000 in
set_option maxRecDepth 100000 in
theorem c_X9_unlockedHours (l : Launch) (hlf : l.stackTraces = false) (G : GG) (qh0 : Nat) (q_snapshot : Nat) (q_history : Nat) (q_program : Nat) (q_notice : Nat) (va : Nat → Nat) (q : McV) (v : StV) (x : Int32) (y : Int32) : xrMet l yX9_unlockedHours cX9_unlockedHours 3 (some .int) 9 2 12 G (fl [[(qh0, .inr (11, [.ref (va 0), .ref q_snapshot, .int q.1, .ref q_history, .ref q_program, .ref q_notice, .int q.2.1, .int q.2.2]))], [((va 0), .inr (10, [.int v.1, .int v.2.1, .ref (va 1), .ref (va 6), .ref (va 10), .ref (va 13)]))], wDo G (va 1) (va 2) (va 3) (va 4) (va 5) v.2.2.1, wEx G (va 6) (va 7) (va 8) (va 9) v.2.2.2.1, wPe G (va 10) (va 11) (va 12) v.2.2.2.2.1, wAu G (va 13) (va 14) (va 15) (va 16) (va 17) (va 18) (va 19) v.2.2.2.2.2]) [.ref qh0, .int x, .int y] (some (.int ((f_X9_unlockedHours q v x y).2))) ((f_X9_unlockedHours q v x y).1 = "" ∧ True) (fun E => E = (f_X9_unlockedHours q v x y).1 ∧ E ≠ "") := by
  refine xr_start (by decide +kernel) (Nat.le_of_ble_eq_true rfl) ?_
  intro p e s m below meth c hx hb hr hml hts hown hlk hxt hP hK hST ls hl
  have hS : va_S (fun _ => False) s.heap s.heap [] := va_S.rf
  have hown : s.vm.findClass RX9 = some m.cls := hown
  have hl : lv_has ls 3 [(0, .ref qh0), (1, .int x), (2, .int y)] := hl
  have hF : f_X9_unlockedHours q v x y = (if (f_X9_requireDoor q v x) = "" then (if (f_X9_requireRange y (1 : Int32) (99 : Int32)) = "" then ("", (f_X8_countUnlockedHours v x y)) else ((f_X9_requireRange y (1 : Int32) (99 : Int32)), 0)) else ((f_X9_requireDoor q v x), 0)) := rfl
  refine lv_aload_n hx hb dX9_unlockedHours_0 rfl (lv_at hl 0 rfl) ?_
  refine lv_iload_n hx hb dX9_unlockedHours_1 rfl (lv_at hl 1 rfl) ?_
  refine xr_V (own := RX9) (v := none) (st1 := []) (As := [.int x]) (rest := []) (c_X9_requireDoor l hlf G qh0 q_snapshot q_history q_program q_notice va q v x) ⟨hx, hb, hml, hown, hts⟩ g_X9_73 hdv_X9_requireDoor hK hST hS hP [0, 1, 2, 3, 4, 5, 6, 7, 8, 9, 10, 11, 12, 13, 14, 15, 16, 17, 18, 19, 20] rfl (k0 := 0) rfl rfl rfl ⟨Nat.le_of_ble_eq_true rfl, Nat.le_of_ble_eq_true rfl⟩ ⟨Nat.le_of_ble_eq_true rfl, Nat.le_of_ble_eq_true rfl⟩ rfl hl.1 rfl (Nat.le_of_ble_eq_true rfl) dX9_unlockedHours_2 rfl (fun E ce q9 H1 hE h1 h2 h3 h4 h5 => xr_out hxt hlk h3 h4 h5 h1 h2 rfl ⟨hE.1.trans (congrArg Prod.fst (hF.trans (if_neg (fun e => hE.2 (hE.1.trans e))))).symm, hE.2⟩ (Nat.le_of_ble_eq_true rfl) (Nat.le_of_ble_eq_true rfl)) (fun b_1 => ?_)
  have hE := b_1.1
  have b_1 := b_1.2
  have hF := hF.trans (if_pos hE)
  refine lv_iload_n hx hb dX9_unlockedHours_5 rfl (lv_at hl 2 rfl) ?_
  refine lv_iconst (v := (1 : Int32)) hx hb dX9_unlockedHours_6 (by decide) ?_
  refine lv_bipush (v := (99 : Int32)) hx hb dX9_unlockedHours_7 (by decide) ?_
  refine xr_S (own := RX9) (v := none) (st1 := []) (As := [.int y, .int (1 : Int32), .int (99 : Int32)]) (rest := []) (c_X9_requireRange l hlf G y (1 : Int32) (99 : Int32)) ⟨hx, hb, hml, hown, hts⟩ g_X9_122 hds_X9_requireRange hK hST hS hP [] rfl ⟨Nat.le_of_ble_eq_true rfl, Nat.le_of_ble_eq_true rfl⟩ ⟨Nat.le_of_ble_eq_true rfl, Nat.le_of_ble_eq_true rfl⟩ rfl hl.1 rfl (Nat.le_of_ble_eq_true rfl) dX9_unlockedHours_9 rfl (fun E ce q9 H1 hE h1 h2 h3 h4 h5 => xr_out hxt hlk h3 h4 h5 h1 h2 rfl ⟨hE.1.trans (congrArg Prod.fst (hF.trans (if_neg (fun e => hE.2 (hE.1.trans e))))).symm, hE.2⟩ (Nat.le_of_ble_eq_true rfl) (Nat.le_of_ble_eq_true rfl)) (fun b_2 => ?_)
  have hE := b_2.1
  have b_2 := b_2.2
  have hF := hF.trans (if_pos hE)
  refine lv_aload_n hx hb dX9_unlockedHours_12 rfl (lv_at hl 0 rfl) ?_
  refine va_get (D := G.1) (ci := 11) (v := .ref (va 0)) (C := RX9) (T := TX9) (N := 8) hx hb hts uws_X9 hown hK hP 0 rfl rfl 0 (by decide) (hts _ u_1097) (fun _ h9 => h9) rfl dX9_unlockedHours_13 ?_
  refine lv_iload_n hx hb dX9_unlockedHours_16 rfl (lv_at hl 1 rfl) ?_
  refine lv_iload_n hx hb dX9_unlockedHours_17 rfl (lv_at hl 2 rfl) ?_
  refine r_V (own := RX9) (v := (some (.int (f_X8_countUnlockedHours v x y)))) (st1 := [.int (f_X8_countUnlockedHours v x y)]) (As := [.int x, .int y]) (rest := []) (c_X8_countUnlockedHours l G va v x y) ⟨hx, hb, hml, hown, hts⟩ g_X9_237 hdv_X8_countUnlockedHours hK hST hS hP [1, 2, 3, 4, 5, 6, 7, 8, 9, 10, 11, 12, 13, 14, 15, 16, 17, 18, 19, 20] rfl (k0 := 0) rfl rfl rfl ⟨Nat.le_of_ble_eq_true rfl, Nat.le_of_ble_eq_true rfl⟩ ⟨Nat.le_of_ble_eq_true rfl, Nat.le_of_ble_eq_true rfl⟩ rfl hl.1 rfl (Nat.le_of_ble_eq_true rfl) dX9_unlockedHours_18 rfl (fun b_3 => ?_)
  exact x_retI hx hb hr hlk rfl (by rw [hF]) ⟨congrArg Prod.fst hF, trivial⟩ (Nat.le_of_ble_eq_true rfl) (Nat.le_of_ble_eq_true rfl) dX9_unlockedHours_21
theorem dX9_entriesOn_0 : decode cX9_entriesOn 0 = .ok (.aload_n 0, 1) := by decide +kernel
theorem dX9_entriesOn_1 : decode cX9_entriesOn 1 = .ok (.iload_n 1, 1) := by decide +kernel
theorem dX9_entriesOn_2 : decode cX9_entriesOn 2 = .ok (.invokevirtual 73, 3) := by decide +kernel
theorem dX9_entriesOn_5 : decode cX9_entriesOn 5 = .ok (.iload_n 2, 1) := by decide +kernel
theorem dX9_entriesOn_6 : decode cX9_entriesOn 6 = .ok (.iconst 0, 1) := by decide +kernel
theorem dX9_entriesOn_7 : decode cX9_entriesOn 7 = .ok (.bipush 7, 2) := by decide +kernel
theorem dX9_entriesOn_9 : decode cX9_entriesOn 9 = .ok (.invokestatic 122, 3) := by decide +kernel
theorem dX9_entriesOn_12 : decode cX9_entriesOn 12 = .ok (.aload_n 0, 1) := by decide +kernel
theorem dX9_entriesOn_13 : decode cX9_entriesOn 13 = .ok (.getfield 10, 3) := by decide +kernel
theorem dX9_entriesOn_16 : decode cX9_entriesOn 16 = .ok (.getfield 243, 3) := by decide +kernel
theorem dX9_entriesOn_19 : decode cX9_entriesOn 19 = .ok (.iload_n 1, 1) := by decide +kernel
theorem dX9_entriesOn_20 : decode cX9_entriesOn 20 = .ok (.aload_n 0, 1) := by decide +kernel
theorem dX9_entriesOn_21 : decode cX9_entriesOn 21 = .ok (.getfield 10, 3) := by decide +kernel
theorem dX9_entriesOn_24 : decode cX9_entriesOn 24 = .ok (.invokevirtual 213, 3) := by decide +kernel
theorem dX9_entriesOn_27 : decode cX9_entriesOn 27 = .ok (.iload_n 2, 1) := by decide +kernel
theorem dX9_entriesOn_28 : decode cX9_entriesOn 28 = .ok (.isub, 1) := by decide +kernel
theorem dX9_entriesOn_29 : decode cX9_entriesOn 29 = .ok (.invokevirtual 247, 3) := by decide +kernel
theorem u_1449 : Cond.methodLink RX9 247 yX0_countEntries ∈ UW := uw 1449 (by decide +kernel) rfl
theorem u_1450 : Cond.instanceMethod yX0_countEntries ∈ UW := uw 1450 (by decide +kernel) rfl
theorem u_1451 : Cond.selects RX0 yX0_countEntries yX0_countEntries ∈ UW := uw 1451 (by decide +kernel) rfl
theorem u_1452 : Cond.code yX0_countEntries cX0_countEntries 3 (some .int) ∈ UW := uw 1452 (by decide +kernel) rfl
theorem g_X9_247 : GoodIn UW (wsV RX9 247 RX0 yX0_countEntries (wsU yX0_countEntries cX0_countEntries 3 (some .int))) := gV u_1449 u_1450 u_1451 u_26 u_1452
theorem hdv_X0_countEntries : yX0_countEntries.cls = RX0 ∧ yX0_countEntries.cls ≠ "java/lang/invoke/MethodHandle" ∧ yX0_countEntries.cls ≠ "java/lang/invoke/VarHandle" ∧ (parseMethodDescriptor yX0_countEntries.desc).map (fun d => d.parameters.length) = some 2 := by decide +kernel
theorem dX9_entriesOn_32 : decode cX9_entriesOn 32 = .ok (.ireturn, 1) := by decide +kernel
def f_X9_entriesOn (q : McV) (v : StV) (x : Int32) (y : Int32) : String × Int32 := (if (f_X9_requireDoor q v x) = "" then (if (f_X9_requireRange y (0 : Int32) (7 : Int32)) = "" then ("", (f_X0_countEntries v.2.2.2.2.2 x ((f_X8_today v) - y))) else ((f_X9_requireRange y (0 : Int32) (7 : Int32)), 0)) else ((f_X9_requireDoor q v x), 0))
set_option maxHeartbeats 4000000 in
set_option maxRecDepth 100000 in
theorem c_X9_entriesOn (l : Launch) (hlf : l.stackTraces = false) (G : GG) (qh0 : Nat) (q_snapshot : Nat) (q_history : Nat) (q_program : Nat) (q_notice : Nat) (va : Nat → Nat) (q : McV) (v : StV) (x : Int32) (y : Int32) : xrMet l yX9_entriesOn cX9_entriesOn 3 (some .int) 9 2 12 G (fl [[(qh0, .inr (11, [.ref (va 0), .ref q_snapshot, .int q.1, .ref q_history, .ref q_program, .ref q_notice, .int q.2.1, .int q.2.2]))], [((va 0), .inr (10, [.int v.1, .int v.2.1, .ref (va 1), .ref (va 6), .ref (va 10), .ref (va 13)]))], wDo G (va 1) (va 2) (va 3) (va 4) (va 5) v.2.2.1, wEx G (va 6) (va 7) (va 8) (va 9) v.2.2.2.1, wPe G (va 10) (va 11) (va 12) v.2.2.2.2.1, wAu G (va 13) (va 14) (va 15) (va 16) (va 17) (va 18) (va 19) v.2.2.2.2.2]) [.ref qh0, .int x, .int y] (some (.int ((f_X9_entriesOn q v x y).2))) ((f_X9_entriesOn q v x y).1 = "" ∧ True) (fun E => E = (f_X9_entriesOn q v x y).1 ∧ E ≠ "") := by
  refine xr_start (by decide +kernel) (Nat.le_of_ble_eq_true rfl) ?_
  intro p e s m below meth c hx hb hr hml hts hown hlk hxt hP hK hST ls hl
  have hS : va_S (fun _ => False) s.heap s.heap [] := va_S.rf
  have hown : s.vm.findClass RX9 = some m.cls := hown
  have hl : lv_has ls 3 [(0, .ref qh0), (1, .int x), (2, .int y)] := hl
  have hF : f_X9_entriesOn q v x y = (if (f_X9_requireDoor q v x) = "" then (if (f_X9_requireRange y (0 : Int32) (7 : Int32)) = "" then ("", (f_X0_countEntries v.2.2.2.2.2 x ((f_X8_today v) - y))) else ((f_X9_requireRange y (0 : Int32) (7 : Int32)), 0)) else ((f_X9_requireDoor q v x), 0)) := rfl
  refine lv_aload_n hx hb dX9_entriesOn_0 rfl (lv_at hl 0 rfl) ?_
  refine lv_iload_n hx hb dX9_entriesOn_1 rfl (lv_at hl 1 rfl) ?_
  refine xr_V (own := RX9) (v := none) (st1 := []) (As := [.int x]) (rest := []) (c_X9_requireDoor l hlf G qh0 q_snapshot q_history q_program q_notice va q v x) ⟨hx, hb, hml, hown, hts⟩ g_X9_73 hdv_X9_requireDoor hK hST hS hP [0, 1, 2, 3, 4, 5, 6, 7, 8, 9, 10, 11, 12, 13, 14, 15, 16, 17, 18, 19, 20] rfl (k0 := 0) rfl rfl rfl ⟨Nat.le_of_ble_eq_true rfl, Nat.le_of_ble_eq_true rfl⟩ ⟨Nat.le_of_ble_eq_true rfl, Nat.le_of_ble_eq_true rfl⟩ rfl hl.1 rfl (Nat.le_of_ble_eq_true rfl) dX9_entriesOn_2 rfl (fun E ce q9 H1 hE h1 h2 h3 h4 h5 => xr_out hxt hlk h3 h4 h5 h1 h2 rfl ⟨hE.1.trans (congrArg Prod.fst (hF.trans (if_neg (fun e => hE.2 (hE.1.trans e))))).symm, hE.2⟩ (Nat.le_of_ble_eq_true rfl) (Nat.le_of_ble_eq_true rfl)) (fun b_1 => ?_)
  have hE := b_1.1
  have b_1 := b_1.2
  have hF := hF.trans (if_pos hE)
  refine lv_iload_n hx hb dX9_entriesOn_5 rfl (lv_at hl 2 rfl) ?_
  refine lv_iconst (v := (0 : Int32)) hx hb dX9_entriesOn_6 (by decide) ?_
  refine lv_bipush (v := (7 : Int32)) hx hb dX9_entriesOn_7 (by decide) ?_
  refine xr_S (own := RX9) (v := none) (st1 := []) (As := [.int y, .int (0 : Int32), .int (7 : Int32)]) (rest := []) (c_X9_requireRange l hlf G y (0 : Int32) (7 : Int32)) ⟨hx, hb, hml, hown, hts⟩ g_X9_122 hds_X9_requireRange hK hST hS hP [] rfl ⟨Nat.le_of_ble_eq_true rfl, Nat.le_of_ble_eq_true rfl⟩ ⟨Nat.le_of_ble_eq_true rfl, Nat.le_of_ble_eq_true rfl⟩ rfl hl.1 rfl (Nat.le_of_ble_eq_true rfl) dX9_entriesOn_9 rfl (fun E ce q9 H1 hE h1 h2 h3 h4 h5 => xr_out hxt hlk h3 h4 h5 h1 h2 rfl ⟨hE.1.trans (congrArg Prod.fst (hF.trans (if_neg (fun e => hE.2 (hE.1.trans e))))).symm, hE.2⟩ (Nat.le_of_ble_eq_true rfl) (Nat.le_of_ble_eq_true rfl)) (fun b_2 => ?_)
  have hE := b_2.1
  have b_2 := b_2.2
  have hF := hF.trans (if_pos hE)
  refine lv_aload_n hx hb dX9_entriesOn_12 rfl (lv_at hl 0 rfl) ?_
  refine va_get (D := G.1) (ci := 11) (v := .ref (va 0)) (C := RX9) (T := TX9) (N := 8) hx hb hts uws_X9 hown hK hP 0 rfl rfl 0 (by decide) (hts _ u_1097) (fun _ h9 => h9) rfl dX9_entriesOn_13 ?_
  refine va_get (D := G.1) (ci := 10) (v := .ref (va 13)) (C := RX8) (T := TX8) (N := 6) hx hb hts uws_X8 hown hK hP 1 rfl rfl 5 (by decide) (hts _ u_1034) (fun _ h9 => h9) rfl dX9_entriesOn_16 ?_
  refine lv_iload_n hx hb dX9_entriesOn_19 rfl (lv_at hl 1 rfl) ?_
  refine lv_aload_n hx hb dX9_entriesOn_20 rfl (lv_at hl 0 rfl) ?_
  refine va_get (D := G.1) (ci := 11) (v := .ref (va 0)) (C := RX9) (T := TX9) (N := 8) hx hb hts uws_X9 hown hK hP 0 rfl rfl 0 (by decide) (hts _ u_1097) (fun _ h9 => h9) rfl dX9_entriesOn_21 ?_
  refine r_V (own := RX9) (v := (some (.int (f_X8_today v)))) (st1 := [.int (f_X8_today v), .int x, .ref (va 13)]) (As := []) (rest := [.int x, .ref (va 13)]) (c_X8_today l G va v) ⟨hx, hb, hml, hown, hts⟩ g_X9_213 hdv_X8_today hK hST hS hP [1, 2, 3, 4, 5, 6, 7, 8, 9, 10, 11, 12, 13, 14, 15, 16, 17, 18, 19, 20] rfl (k0 := 0) rfl rfl rfl ⟨Nat.le_of_ble_eq_true rfl, Nat.le_of_ble_eq_true rfl⟩ ⟨Nat.le_of_ble_eq_true rfl, Nat.le_of_ble_eq_true rfl⟩ rfl hl.1 rfl (Nat.le_of_ble_eq_true rfl) dX9_entriesOn_24 rfl (fun b_3 => ?_)
  refine lv_iload_n hx hb dX9_entriesOn_27 rfl (lv_at hl 2 rfl) ?_
  refine lv_isub hx hb dX9_entriesOn_28 ?_
  refine r_V (own := RX9) (v := (some (.int (f_X0_countEntries v.2.2.2.2.2 x ((f_X8_today v) - y))))) (st1 := [.int (f_X0_countEntries v.2.2.2.2.2 x ((f_X8_today v) - y))]) (As := [.int x, .int ((f_X8_today v) - y)]) (rest := []) (c_X0_countEntries l G (va 13) (va 14) (va 15) (va 16) (va 17) (va 18) (va 19) v.2.2.2.2.2 x ((f_X8_today v) - y)) ⟨hx, hb, hml, hown, hts⟩ g_X9_247 hdv_X0_countEntries hK hST hS hP [14, 15, 16, 17, 18, 19, 20] rfl (k0 := 0) rfl rfl rfl ⟨Nat.le_of_ble_eq_true rfl, Nat.le_of_ble_eq_true rfl⟩ ⟨Nat.le_of_ble_eq_true rfl, Nat.le_of_ble_eq_true rfl⟩ rfl hl.1 rfl (Nat.le_of_ble_eq_true rfl) dX9_entriesOn_29 rfl (fun b_4 => ?_)
  exact x_retI hx hb hr hlk rfl (by rw [hF]) ⟨congrArg Prod.fst hF, trivial⟩ (Nat.le_of_ble_eq_true rfl) (Nat.le_of_ble_eq_true rfl) dX9_entriesOn_32
theorem dX9_refusalsOn_0 : decode cX9_refusalsOn 0 = .ok (.aload_n 0, 1) := by decide +kernel
theorem dX9_refusalsOn_1 : decode cX9_refusalsOn 1 = .ok (.iload_n 1, 1) := by decide +kernel
theorem dX9_refusalsOn_2 : decode cX9_refusalsOn 2 = .ok (.invokevirtual 73, 3) := by decide +kernel
theorem dX9_refusalsOn_5 : decode cX9_refusalsOn 5 = .ok (.iload_n 2, 1) := by decide +kernel
theorem dX9_refusalsOn_6 : decode cX9_refusalsOn 6 = .ok (.iconst 0, 1) := by decide +kernel
theorem dX9_refusalsOn_7 : decode cX9_refusalsOn 7 = .ok (.bipush 7, 2) := by decide +kernel
theorem dX9_refusalsOn_9 : decode cX9_refusalsOn 9 = .ok (.invokestatic 122, 3) := by decide +kernel
theorem dX9_refusalsOn_12 : decode cX9_refusalsOn 12 = .ok (.aload_n 0, 1) := by decide +kernel
theorem dX9_refusalsOn_13 : decode cX9_refusalsOn 13 = .ok (.getfield 10, 3) := by decide +kernel
theorem dX9_refusalsOn_16 : decode cX9_refusalsOn 16 = .ok (.getfield 243, 3) := by decide +kernel
theorem dX9_refusalsOn_19 : decode cX9_refusalsOn 19 = .ok (.iload_n 1, 1) := by decide +kernel
theorem dX9_refusalsOn_20 : decode cX9_refusalsOn 20 = .ok (.aload_n 0, 1) := by decide +kernel
theorem dX9_refusalsOn_21 : decode cX9_refusalsOn 21 = .ok (.getfield 10, 3) := by decide +kernel
theorem dX9_refusalsOn_24 : decode cX9_refusalsOn 24 = .ok (.invokevirtual 213, 3) := by decide +kernel
theorem dX9_refusalsOn_27 : decode cX9_refusalsOn 27 = .ok (.iload_n 2, 1) := by decide +kernel
theorem dX9_refusalsOn_28 : decode cX9_refusalsOn 28 = .ok (.isub, 1) := by decide +kernel
theorem dX9_refusalsOn_29 : decode cX9_refusalsOn 29 = .ok (.invokevirtual 252, 3) := by decide +kernel
theorem u_1457 : Cond.methodLink RX9 252 yX0_countRefusals ∈ UW := uw 1457 (by decide +kernel) rfl
theorem u_1458 : Cond.instanceMethod yX0_countRefusals ∈ UW := uw 1458 (by decide +kernel) rfl
theorem u_1459 : Cond.selects RX0 yX0_countRefusals yX0_countRefusals ∈ UW := uw 1459 (by decide +kernel) rfl
theorem u_1460 : Cond.code yX0_countRefusals cX0_countRefusals 3 (some .int) ∈ UW := uw 1460 (by decide +kernel) rfl
theorem g_X9_252 : GoodIn UW (wsV RX9 252 RX0 yX0_countRefusals (wsU yX0_countRefusals cX0_countRefusals 3 (some .int))) := gV u_1457 u_1458 u_1459 u_26 u_1460
theorem hdv_X0_countRefusals : yX0_countRefusals.cls = RX0 ∧ yX0_countRefusals.cls ≠ "java/lang/invoke/MethodHandle" ∧ yX0_countRefusals.cls ≠ "java/lang/invoke/VarHandle" ∧ (parseMethodDescriptor yX0_countRefusals.desc).map (fun d => d.parameters.length) = some 2 := by decide +kernel
theorem dX9_refusalsOn_32 : decode cX9_refusalsOn 32 = .ok (.ireturn, 1) := by decide +kernel
def f_X9_refusalsOn (q : McV) (v : StV) (x : Int32) (y : Int32) : String × Int32 := (if (f_X9_requireDoor q v x) = "" then (if (f_X9_requireRange y (0 : Int32) (7 : Int32)) = "" then ("", (f_X0_countRefusals v.2.2.2.2.2 x ((f_X8_today v) - y))) else ((f_X9_requireRange y (0 : Int32) (7 : Int32)), 0)) else ((f_X9_requireDoor q v x), 0))
set_option maxHeartbeats 4000000 in
set_option maxRecDepth 100000 in
theorem c_X9_refusalsOn (l : Launch) (hlf : l.stackTraces = false) (G : GG) (qh0 : Nat) (q_snapshot : Nat) (q_history : Nat) (q_program : Nat) (q_notice : Nat) (va : Nat → Nat) (q : McV) (v : StV) (x : Int32) (y : Int32) : xrMet l yX9_refusalsOn cX9_refusalsOn 3 (some .int) 9 2 12 G (fl [[(qh0, .inr (11, [.ref (va 0), .ref q_snapshot, .int q.1, .ref q_history, .ref q_program, .ref q_notice, .int q.2.1, .int q.2.2]))], [((va 0), .inr (10, [.int v.1, .int v.2.1, .ref (va 1), .ref (va 6), .ref (va 10), .ref (va 13)]))], wDo G (va 1) (va 2) (va 3) (va 4) (va 5) v.2.2.1, wEx G (va 6) (va 7) (va 8) (va 9) v.2.2.2.1, wPe G (va 10) (va 11) (va 12) v.2.2.2.2.1, wAu G (va 13) (va 14) (va 15) (va 16) (va 17) (va 18) (va 19) v.2.2.2.2.2]) [.ref qh0, .int x, .int y] (some (.int ((f_X9_refusalsOn q v x y).2))) ((f_X9_refusalsOn q v x y).1 = "" ∧ True) (fun E => E = (f_X9_refusalsOn q v x y).1 ∧ E ≠ "") := by
  refine xr_start (by decide +kernel) (Nat.le_of_ble_eq_true rfl) ?_
  intro p e s m below meth c hx hb hr hml hts hown hlk hxt hP hK hST ls hl
  have hS : va_S (fun _ => False) s.heap s.heap [] := va_S.rf
  have hown : s.vm.findClass RX9 = some m.cls := hown
  have hl : lv_has ls 3 [(0, .ref qh0), (1, .int x), (2, .int y)] := hl
  have hF : f_X9_refusalsOn q v x y = (if (f_X9_requireDoor q v x) = "" then (if (f_X9_requireRange y (0 : Int32) (7 : Int32)) = "" then ("", (f_X0_countRefusals v.2.2.2.2.2 x ((f_X8_today v) - y))) else ((f_X9_requireRange y (0 : Int32) (7 : Int32)), 0)) else ((f_X9_requireDoor q v x), 0)) := rfl
  refine lv_aload_n hx hb dX9_refusalsOn_0 rfl (lv_at hl 0 rfl) ?_
  refine lv_iload_n hx hb dX9_refusalsOn_1 rfl (lv_at hl 1 rfl) ?_
  refine xr_V (own := RX9) (v := none) (st1 := []) (As := [.int x]) (rest := []) (c_X9_requireDoor l hlf G qh0 q_snapshot q_history q_program q_notice va q v x) ⟨hx, hb, hml, hown, hts⟩ g_X9_73 hdv_X9_requireDoor hK hST hS hP [0, 1, 2, 3, 4, 5, 6, 7, 8, 9, 10, 11, 12, 13, 14, 15, 16, 17, 18, 19, 20] rfl (k0 := 0) rfl rfl rfl ⟨Nat.le_of_ble_eq_true rfl, Nat.le_of_ble_eq_true rfl⟩ ⟨Nat.le_of_ble_eq_true rfl, Nat.le_of_ble_eq_true rfl⟩ rfl hl.1 rfl (Nat.le_of_ble_eq_true rfl) dX9_refusalsOn_2 rfl (fun E ce q9 H1 hE h1 h2 h3 h4 h5 => xr_out hxt hlk h3 h4 h5 h1 h2 rfl ⟨hE.1.trans (congrArg Prod.fst (hF.trans (if_neg (fun e => hE.2 (hE.1.trans e))))).symm, hE.2⟩ (Nat.le_of_ble_eq_true rfl) (Nat.le_of_ble_eq_true rfl)) (fun b_1 => ?_)
  have hE := b_1.1
  have b_1 := b_1.2
  have hF := hF.trans (if_pos hE)
  refine lv_iload_n hx hb dX9_refusalsOn_5 rfl (lv_at hl 2 rfl) ?_
  refine lv_iconst (v := (0 : Int32)) hx hb dX9_refusalsOn_6 (by decide) ?_
  refine lv_bipush (v := (7 : Int32)) hx hb dX9_refusalsOn_7 (by decide) ?_
  refine xr_S (own := RX9) (v := none) (st1 := []) (As := [.int y, .int (0 : Int32), .int (7 : Int32)]) (rest := []) (c_X9_requireRange l hlf G y (0 : Int32) (7 : Int32)) ⟨hx, hb, hml, hown, hts⟩ g_X9_122 hds_X9_requireRange hK hST hS hP [] rfl ⟨Nat.le_of_ble_eq_true rfl, Nat.le_of_ble_eq_true rfl⟩ ⟨Nat.le_of_ble_eq_true rfl, Nat.le_of_ble_eq_true rfl⟩ rfl hl.1 rfl (Nat.le_of_ble_eq_true rfl) dX9_refusalsOn_9 rfl (fun E ce q9 H1 hE h1 h2 h3 h4 h5 => xr_out hxt hlk h3 h4 h5 h1 h2 rfl ⟨hE.1.trans (congrArg Prod.fst (hF.trans (if_neg (fun e => hE.2 (hE.1.trans e))))).symm, hE.2⟩ (Nat.le_of_ble_eq_true rfl) (Nat.le_of_ble_eq_true rfl)) (fun b_2 => ?_)
  have hE := b_2.1
  have b_2 := b_2.2
  have hF := hF.trans (if_pos hE)
  refine lv_aload_n hx hb dX9_refusalsOn_12 rfl (lv_at hl 0 rfl) ?_
  refine va_get (D := G.1) (ci := 11) (v := .ref (va 0)) (C := RX9) (T := TX9) (N := 8) hx hb hts uws_X9 hown hK hP 0 rfl rfl 0 (by decide) (hts _ u_1097) (fun _ h9 => h9) rfl dX9_refusalsOn_13 ?_
  refine va_get (D := G.1) (ci := 10) (v := .ref (va 13)) (C := RX8) (T := TX8) (N := 6) hx hb hts uws_X8 hown hK hP 1 rfl rfl 5 (by decide) (hts _ u_1034) (fun _ h9 => h9) rfl dX9_refusalsOn_16 ?_
  refine lv_iload_n hx hb dX9_refusalsOn_19 rfl (lv_at hl 1 rfl) ?_
  refine lv_aload_n hx hb dX9_refusalsOn_20 rfl (lv_at hl 0 rfl) ?_
  refine va_get (D := G.1) (ci := 11) (v := .ref (va 0)) (C := RX9) (T := TX9) (N := 8) hx hb hts uws_X9 hown hK hP 0 rfl rfl 0 (by decide) (hts _ u_1097) (fun _ h9 => h9) rfl dX9_refusalsOn_21 ?_
  refine r_V (own := RX9) (v := (some (.int (f_X8_today v)))) (st1 := [.int (f_X8_today v), .int x, .ref (va 13)]) (As := []) (rest := [.int x, .ref (va 13)]) (c_X8_today l G va v) ⟨hx, hb, hml, hown, hts⟩ g_X9_213 hdv_X8_today hK hST hS hP [1, 2, 3, 4, 5, 6, 7, 8, 9, 10, 11, 12, 13, 14, 15, 16, 17, 18, 19, 20] rfl (k0 := 0) rfl rfl rfl ⟨Nat.le_of_ble_eq_true rfl, Nat.le_of_ble_eq_true rfl⟩ ⟨Nat.le_of_ble_eq_true rfl, Nat.le_of_ble_eq_true rfl⟩ rfl hl.1 rfl (Nat.le_of_ble_eq_true rfl) dX9_refusalsOn_24 rfl (fun b_3 => ?_)
  refine lv_iload_n hx hb dX9_refusalsOn_27 rfl (lv_at hl 2 rfl) ?_
  refine lv_isub hx hb dX9_refusalsOn_28 ?_
  refine r_V (own := RX9) (v := (some (.int (f_X0_countRefusals v.2.2.2.2.2 x ((f_X8_today v) - y))))) (st1 := [.int (f_X0_countRefusals v.2.2.2.2.2 x ((f_X8_today v) - y))]) (As := [.int x, .int ((f_X8_today v) - y)]) (rest := []) (c_X0_countRefusals l G (va 13) (va 14) (va 15) (va 16) (va 17) (va 18) (va 19) v.2.2.2.2.2 x ((f_X8_today v) - y)) ⟨hx, hb, hml, hown, hts⟩ g_X9_252 hdv_X0_countRefusals hK hST hS hP [14, 15, 16, 17, 18, 19, 20] rfl (k0 := 0) rfl rfl rfl ⟨Nat.le_of_ble_eq_true rfl, Nat.le_of_ble_eq_true rfl⟩ ⟨Nat.le_of_ble_eq_true rfl, Nat.le_of_ble_eq_true rfl⟩ rfl hl.1 rfl (Nat.le_of_ble_eq_true rfl) dX9_refusalsOn_29 rfl (fun b_4 => ?_)
  exact x_retI hx hb hr hlk rfl (by rw [hF]) ⟨congrArg Prod.fst hF, trivial⟩ (Nat.le_of_ble_eq_true rfl) (Nat.le_of_ble_eq_true rfl) dX9_refusalsOn_32
theorem dX9_wouldEnter_0 : decode cX9_wouldEnter 0 = .ok (.aload_n 0, 1) := by decide +kernel
theorem dX9_wouldEnter_1 : decode cX9_wouldEnter 1 = .ok (.getfield 10, 3) := by decide +kernel
theorem dX9_wouldEnter_4 : decode cX9_wouldEnter 4 = .ok (.iload_n 1, 1) := by decide +kernel
theorem dX9_wouldEnter_5 : decode cX9_wouldEnter 5 = .ok (.iload_n 2, 1) := by decide +kernel
theorem dX9_wouldEnter_6 : decode cX9_wouldEnter 6 = .ok (.invokevirtual 180, 3) := by decide +kernel
theorem u_727 : Cond.methodLink RX9 180 yX8_faultOfAttempt ∈ UW := uw 727 (by decide +kernel) rfl
theorem u_728 : Cond.instanceMethod yX8_faultOfAttempt ∈ UW := uw 728 (by decide +kernel) rfl
theorem u_729 : Cond.selects RX8 yX8_faultOfAttempt yX8_faultOfAttempt ∈ UW := uw 729 (by decide +kernel) rfl
theorem u_730 : Cond.code yX8_faultOfAttempt cX8_faultOfAttempt 3 (some (.object "MoonlitDoors$Fault")) ∈ UW := uw 730 (by decide +kernel) rfl
theorem g_X9_180 : GoodIn UW (wsV RX9 180 RX8 yX8_faultOfAttempt (wsU yX8_faultOfAttempt cX8_faultOfAttempt 3 (some (.object "MoonlitDoors$Fault")))) := gV u_727 u_728 u_729 u_22 u_730
theorem hdv_X8_faultOfAttempt : yX8_faultOfAttempt.cls = RX8 ∧ yX8_faultOfAttempt.cls ≠ "java/lang/invoke/MethodHandle" ∧ yX8_faultOfAttempt.cls ≠ "java/lang/invoke/VarHandle" ∧ (parseMethodDescriptor yX8_faultOfAttempt.desc).map (fun d => d.parameters.length) = some 2 := by decide +kernel
theorem dX9_wouldEnter_9 : decode cX9_wouldEnter 9 = .ok (.invokestatic 55, 3) := by decide +kernel
theorem u_604 : Cond.methodLink RX9 55 yX9_throwFor ∈ UW := uw 604 (by decide +kernel) rfl
theorem u_605 : Cond.static yX9_throwFor ∈ UW := uw 605 (by decide +kernel) rfl
theorem u_606 : Cond.code yX9_throwFor cX9_throwFor 1 none ∈ UW := uw 606 (by decide +kernel) rfl
theorem g_X9_55 : GoodIn UW (va_wsS RX9 55 yX9_throwFor (wsU yX9_throwFor cX9_throwFor 1 none)) := gS u_604 u_605 u_21 u_606
theorem hds_X9_throwFor : yX9_throwFor.cls ≠ "java/lang/invoke/MethodHandle" ∧ yX9_throwFor.cls ≠ "java/lang/invoke/VarHandle" ∧ (parseMethodDescriptor yX9_throwFor.desc).map (fun d => d.parameters.length) = some 1 := by decide +kernel
theorem dX9_wouldEnter_12 : decode cX9_wouldEnter 12 = .ok (.aload_n 0, 1) := by decide +kernel
theorem dX9_wouldEnter_13 : decode cX9_wouldEnter 13 = .ok (.getfield 10, 3) := by decide +kernel
theorem dX9_wouldEnter_16 : decode cX9_wouldEnter 16 = .ok (.iload_n 1, 1) := by decide +kernel
theorem dX9_wouldEnter_17 : decode cX9_wouldEnter 17 = .ok (.iload_n 2, 1) := by decide +kernel
theorem dX9_wouldEnter_18 : decode cX9_wouldEnter 18 = .ok (.invokevirtual 186, 3) := by decide +kernel
theorem u_782 : Cond.methodLink RX9 186 yX8_resultFor ∈ UW := uw 782 (by decide +kernel) rfl
theorem g_X9_186 : GoodIn UW (wsV RX9 186 RX8 yX8_resultFor (wsU yX8_resultFor cX8_resultFor 5 (some .int))) := gV u_782 u_740 u_741 u_22 u_742
theorem dX9_wouldEnter_21 : decode cX9_wouldEnter 21 = .ok (.ireturn, 1) := by decide +kernel
def f_X9_wouldEnter (q : McV) (v : StV) (x : Int32) (y : Int32) : String × Int32 := (if (f_X9_throwFor (f_X8_faultOfAttempt v x y)) = "" then ("", (f_X8_resultFor v x y)) else ((f_X9_throwFor (f_X8_faultOfAttempt v x y)), 0))
set_option maxHeartbeats 4000000 in
set_option maxRecDepth 100000 in
theorem c_X9_wouldEnter (l : Launch) (hlf : l.stackTraces = false) (G : GG) (qh0 : Nat) (q_snapshot : Nat) (q_history : Nat) (q_program : Nat) (q_notice : Nat) (va : Nat → Nat) (q : McV) (v : StV) (x : Int32) (y : Int32) : xrMet l yX9_wouldEnter cX9_wouldEnter 3 (some .int) 9 1 6 G (fl [[(qh0, .inr (11, [.ref (va 0), .ref q_snapshot, .int q.1, .ref q_history, .ref q_program, .ref q_notice, .int q.2.1, .int q.2.2]))], [((va 0), .inr (10, [.int v.1, .int v.2.1, .ref (va 1), .ref (va 6), .ref (va 10), .ref (va 13)]))], wDo G (va 1) (va 2) (va 3) (va 4) (va 5) v.2.2.1, wEx G (va 6) (va 7) (va 8) (va 9) v.2.2.2.1, wPe G (va 10) (va 11) (va 12) v.2.2.2.2.1, wAu G (va 13) (va 14) (va 15) (va 16) (va 17) (va 18) (va 19) v.2.2.2.2.2]) [.ref qh0, .int x, .int y] (some (.int ((f_X9_wouldEnter q v x y).2))) ((f_X9_wouldEnter q v x y).1 = "" ∧ True) (fun E => E = (f_X9_wouldEnter q v x y).1 ∧ E ≠ "") := by
  refine xr_start (by decide +kernel) (Nat.le_of_ble_eq_true rfl) ?_
  intro p e s m below meth c hx hb hr hml hts hown hlk hxt hP hK hST ls hl
  have hS : va_S (fun _ => False) s.heap s.heap [] := va_S.rf
  have hown : s.vm.findClass RX9 = some m.cls := hown
  have hl : lv_has ls 3 [(0, .ref qh0), (1, .int x), (2, .int y)] := hl
  have hF : f_X9_wouldEnter q v x y = (if (f_X9_throwFor (f_X8_faultOfAttempt v x y)) = "" then ("", (f_X8_resultFor v x y)) else ((f_X9_throwFor (f_X8_faultOfAttempt v x y)), 0)) := rfl
  refine lv_aload_n hx hb dX9_wouldEnter_0 rfl (lv_at hl 0 rfl) ?_
  refine va_get (D := G.1) (ci := 11) (v := .ref (va 0)) (C := RX9) (T := TX9) (N := 8) hx hb hts uws_X9 hown hK hP 0 rfl rfl 0 (by decide) (hts _ u_1097) (fun _ h9 => h9) rfl dX9_wouldEnter_1 ?_
  refine lv_iload_n hx hb dX9_wouldEnter_4 rfl (lv_at hl 1 rfl) ?_
  refine lv_iload_n hx hb dX9_wouldEnter_5 rfl (lv_at hl 2 rfl) ?_
  refine r_V (own := RX9) (v := (some (.ref (G.2.2.1 (f_X8_faultOfAttempt v x y))))) (st1 := [.ref (G.2.2.1 (f_X8_faultOfAttempt v x y))]) (As := [.int x, .int y]) (rest := []) (c_X8_faultOfAttempt l G va v x y) ⟨hx, hb, hml, hown, hts⟩ g_X9_180 hdv_X8_faultOfAttempt hK hST hS hP [1, 2, 3, 4, 5, 6, 7, 8, 9, 10, 11, 12, 13, 14, 15, 16, 17, 18, 19, 20] rfl (k0 := 0) rfl rfl rfl ⟨Nat.le_of_ble_eq_true rfl, Nat.le_of_ble_eq_true rfl⟩ ⟨Nat.le_of_ble_eq_true rfl, Nat.le_of_ble_eq_true rfl⟩ rfl hl.1 rfl (Nat.le_of_ble_eq_true rfl) dX9_wouldEnter_6 rfl (fun b_1 => ?_)
  refine xr_S (own := RX9) (v := none) (st1 := []) (As := [.ref (G.2.2.1 (f_X8_faultOfAttempt v x y))]) (rest := []) (c_X9_throwFor l hlf G (f_X8_faultOfAttempt v x y) b_1) ⟨hx, hb, hml, hown, hts⟩ g_X9_55 hds_X9_throwFor hK hST hS hP [] rfl ⟨Nat.le_of_ble_eq_true rfl, Nat.le_of_ble_eq_true rfl⟩ ⟨Nat.le_of_ble_eq_true rfl, Nat.le_of_ble_eq_true rfl⟩ rfl hl.1 rfl (Nat.le_of_ble_eq_true rfl) dX9_wouldEnter_9 rfl (fun E ce q9 H1 hE h1 h2 h3 h4 h5 => xr_out hxt hlk h3 h4 h5 h1 h2 rfl ⟨hE.1.trans (congrArg Prod.fst (hF.trans (if_neg (fun e => hE.2 (hE.1.trans e))))).symm, hE.2⟩ (Nat.le_of_ble_eq_true rfl) (Nat.le_of_ble_eq_true rfl)) (fun b_2 => ?_)
  have hE := b_2.1
  have b_2 := b_2.2
  have hF := hF.trans (if_pos hE)
  refine lv_aload_n hx hb dX9_wouldEnter_12 rfl (lv_at hl 0 rfl) ?_
  refine va_get (D := G.1) (ci := 11) (v := .ref (va 0)) (C := RX9) (T := TX9) (N := 8) hx hb hts uws_X9 hown hK hP 0 rfl rfl 0 (by decide) (hts _ u_1097) (fun _ h9 => h9) rfl dX9_wouldEnter_13 ?_
  refine lv_iload_n hx hb dX9_wouldEnter_16 rfl (lv_at hl 1 rfl) ?_
  refine lv_iload_n hx hb dX9_wouldEnter_17 rfl (lv_at hl 2 rfl) ?_
  refine r_V (own := RX9) (v := (some (.int (f_X8_resultFor v x y)))) (st1 := [.int (f_X8_resultFor v x y)]) (As := [.int x, .int y]) (rest := []) (c_X8_resultFor l G va v x y) ⟨hx, hb, hml, hown, hts⟩ g_X9_186 hdv_X8_resultFor hK hST hS hP [1, 2, 3, 4, 5, 6, 7, 8, 9, 10, 11, 12, 13, 14, 15, 16, 17, 18, 19, 20] rfl (k0 := 0) rfl rfl rfl ⟨Nat.le_of_ble_eq_true rfl, Nat.le_of_ble_eq_true rfl⟩ ⟨Nat.le_of_ble_eq_true rfl, Nat.le_of_ble_eq_true rfl⟩ rfl hl.1 rfl (Nat.le_of_ble_eq_true rfl) dX9_wouldEnter_18 rfl (fun b_3 => ?_)
  exact x_retI hx hb hr hlk rfl (by rw [hF]) ⟨congrArg Prod.fst hF, trivial⟩ (Nat.le_of_ble_eq_true rfl) (Nat.le_of_ble_eq_true rfl) dX9_wouldEnter_21
theorem dX9_isUnlocked_0 : decode cX9_isUnlocked 0 = .ok (.aload_n 0, 1) := by decide +kernel
theorem dX9_isUnlocked_1 : decode cX9_isUnlocked 1 = .ok (.iload_n 1, 1) := by decide +kernel
theorem dX9_isUnlocked_2 : decode cX9_isUnlocked 2 = .ok (.invokevirtual 73, 3) := by decide +kernel
theorem dX9_isUnlocked_5 : decode cX9_isUnlocked 5 = .ok (.aload_n 0, 1) := by decide +kernel
theorem dX9_isUnlocked_6 : decode cX9_isUnlocked 6 = .ok (.getfield 10, 3) := by decide +kernel
theorem dX9_isUnlocked_9 : decode cX9_isUnlocked 9 = .ok (.iload_n 1, 1) := by decide +kernel
theorem dX9_isUnlocked_10 : decode cX9_isUnlocked 10 = .ok (.aload_n 0, 1) := by decide +kernel
theorem dX9_isUnlocked_11 : decode cX9_isUnlocked 11 = .ok (.getfield 10, 3) := by decide +kernel
theorem dX9_isUnlocked_14 : decode cX9_isUnlocked 14 = .ok (.getfield 225, 3) := by decide +kernel
theorem u_1025 : Cond.fieldLink RX9 225 "MoonlitDoors$State" "time" "I" ∈ UW := uw 1025 (by decide +kernel) rfl
theorem dX9_isUnlocked_17 : decode cX9_isUnlocked 17 = .ok (.invokevirtual 228, 3) := by decide +kernel
theorem u_515 : Cond.methodLink RX9 228 yX8_isUnlockedAt ∈ UW := uw 515 (by decide +kernel) rfl
theorem g_X9_228 : GoodIn UW (wsV RX9 228 RX8 yX8_isUnlockedAt (wsU yX8_isUnlockedAt cX8_isUnlockedAt 5 (some .boolean))) := gV u_515 u_516 u_517 u_22 u_518
theorem dX9_isUnlocked_20 : decode cX9_isUnlocked 20 = .ok (.ireturn, 1) := by decide +kernel
def f_X9_isUnlocked (q : McV) (v : StV) (x : Int32) : String × Int32 := (if (f_X9_requireDoor q v x) = "" then ("", (f_X8_isUnlockedAt v x v.1)) else ((f_X9_requireDoor q v x), 0))
set_option maxHeartbeats 4000000 in
set_option maxRecDepth 100000 in
theorem c_X9_isUnlocked (l : Launch) (hlf : l.stackTraces = false) (G : GG) (qh0 : Nat) (q_snapshot : Nat) (q_history : Nat) (q_program : Nat) (q_notice : Nat) (va : Nat → Nat) (q : McV) (v : StV) (x : Int32) : xrMet l yX9_isUnlocked cX9_isUnlocked 2 (some .boolean) 9 1 6 G (fl [[(qh0, .inr (11, [.ref (va 0), .ref q_snapshot, .int q.1, .ref q_history, .ref q_program, .ref q_notice, .int q.2.1, .int q.2.2]))], [((va 0), .inr (10, [.int v.1, .int v.2.1, .ref (va 1), .ref (va 6), .ref (va 10), .ref (va 13)]))], wDo G (va 1) (va 2) (va 3) (va 4) (va 5) v.2.2.1, wEx G (va 6) (va 7) (va 8) (va 9) v.2.2.2.1, wPe G (va 10) (va 11) (va 12) v.2.2.2.2.1, wAu G (va 13) (va 14) (va 15) (va 16) (va 17) (va 18) (va 19) v.2.2.2.2.2]) [.ref qh0, .int x] (some (.int ((f_X9_isUnlocked q v x).2))) ((f_X9_isUnlocked q v x).1 = "" ∧ narrow .boolean (.int ((f_X9_isUnlocked q v x).2)) = .int ((f_X9_isUnlocked q v x).2)) (fun E => E = (f_X9_isUnlocked q v x).1 ∧ E ≠ "") := by
  refine xr_start (by decide +kernel) (Nat.le_of_ble_eq_true rfl) ?_
  intro p e s m below meth c hx hb hr hml hts hown hlk hxt hP hK hST ls hl
  have hS : va_S (fun _ => False) s.heap s.heap [] := va_S.rf
  have hown : s.vm.findClass RX9 = some m.cls := hown
  have hl : lv_has ls 2 [(0, .ref qh0), (1, .int x)] := hl
  have hF : f_X9_isUnlocked q v x = (if (f_X9_requireDoor q v x) = "" then ("", (f_X8_isUnlockedAt v x v.1)) else ((f_X9_requireDoor q v x), 0)) := rfl
  refine lv_aload_n hx hb dX9_isUnlocked_0 rfl (lv_at hl 0 rfl) ?_
  refine lv_iload_n hx hb dX9_isUnlocked_1 rfl (lv_at hl 1 rfl) ?_
  refine xr_V (own := RX9) (v := none) (st1 := []) (As := [.int x]) (rest := []) (c_X9_requireDoor l hlf G qh0 q_snapshot q_history q_program q_notice va q v x) ⟨hx, hb, hml, hown, hts⟩ g_X9_73 hdv_X9_requireDoor hK hST hS hP [0, 1, 2, 3, 4, 5, 6, 7, 8, 9, 10, 11, 12, 13, 14, 15, 16, 17, 18, 19, 20] rfl (k0 := 0) rfl rfl rfl ⟨Nat.le_of_ble_eq_true rfl, Nat.le_of_ble_eq_true rfl⟩ ⟨Nat.le_of_ble_eq_true rfl, Nat.le_of_ble_eq_true rfl⟩ rfl hl.1 rfl (Nat.le_of_ble_eq_true rfl) dX9_isUnlocked_2 rfl (fun E ce q9 H1 hE h1 h2 h3 h4 h5 => xr_out hxt hlk h3 h4 h5 h1 h2 rfl ⟨hE.1.trans (congrArg Prod.fst (hF.trans (if_neg (fun e => hE.2 (hE.1.trans e))))).symm, hE.2⟩ (Nat.le_of_ble_eq_true rfl) (Nat.le_of_ble_eq_true rfl)) (fun b_1 => ?_)
  have hE := b_1.1
  have b_1 := b_1.2
  have hF := hF.trans (if_pos hE)
  refine lv_aload_n hx hb dX9_isUnlocked_5 rfl (lv_at hl 0 rfl) ?_
  refine va_get (D := G.1) (ci := 11) (v := .ref (va 0)) (C := RX9) (T := TX9) (N := 8) hx hb hts uws_X9 hown hK hP 0 rfl rfl 0 (by decide) (hts _ u_1097) (fun _ h9 => h9) rfl dX9_isUnlocked_6 ?_
  refine lv_iload_n hx hb dX9_isUnlocked_9 rfl (lv_at hl 1 rfl) ?_
  refine lv_aload_n hx hb dX9_isUnlocked_10 rfl (lv_at hl 0 rfl) ?_
  refine va_get (D := G.1) (ci := 11) (v := .ref (va 0)) (C := RX9) (T := TX9) (N := 8) hx hb hts uws_X9 hown hK hP 0 rfl rfl 0 (by decide) (hts _ u_1097) (fun _ h9 => h9) rfl dX9_isUnlocked_11 ?_
  refine va_get (D := G.1) (ci := 10) (v := .int v.1) (C := RX8) (T := TX8) (N := 6) hx hb hts uws_X8 hown hK hP 1 rfl rfl 0 (by decide) (hts _ u_1025) (fun _ h9 => h9) rfl dX9_isUnlocked_14 ?_
  refine r_V (own := RX9) (v := (some (.int (f_X8_isUnlockedAt v x v.1)))) (st1 := [.int (f_X8_isUnlockedAt v x v.1)]) (As := [.int x, .int v.1]) (rest := []) (c_X8_isUnlockedAt l G va v x v.1) ⟨hx, hb, hml, hown, hts⟩ g_X9_228 hdv_X8_isUnlockedAt hK hST hS hP [1, 2, 3, 4, 5, 6, 7, 8, 9, 10, 11, 12, 13, 14, 15, 16, 17, 18, 19, 20] rfl (k0 := 0) rfl rfl rfl ⟨Nat.le_of_ble_eq_true rfl, Nat.le_of_ble_eq_true rfl⟩ ⟨Nat.le_of_ble_eq_true rfl, Nat.le_of_ble_eq_true rfl⟩ rfl hl.1 rfl (Nat.le_of_ble_eq_true rfl) dX9_isUnlocked_17 rfl (fun b_2 => ?_)
  exact x_retI hx hb hr hlk b_2 (by rw [hF]) ⟨congrArg Prod.fst hF, (by rw [hF]; exact (b_2 : narrow .boolean (.int (f_X8_isUnlockedAt v x v.1)) = .int (f_X8_isUnlockedAt v x v.1)))⟩ (Nat.le_of_ble_eq_true rfl) (Nat.le_of_ble_eq_true rfl) dX9_isUnlocked_20
theorem dX9_isHourOf_0 : decode cX9_isHourOf 0 = .ok (.aload_n 0, 1) := by decide +kernel
theorem dX9_isHourOf_1 : decode cX9_isHourOf 1 = .ok (.iload_n 1, 1) := by decide +kernel
theorem dX9_isHourOf_2 : decode cX9_isHourOf 2 = .ok (.invokevirtual 73, 3) := by decide +kernel
theorem dX9_isHourOf_5 : decode cX9_isHourOf 5 = .ok (.iload_n 2, 1) := by decide +kernel
theorem dX9_isHourOf_6 : decode cX9_isHourOf 6 = .ok (.iconst 0, 1) := by decide +kernel
theorem dX9_isHourOf_7 : decode cX9_isHourOf 7 = .ok (.bipush 23, 2) := by decide +kernel
theorem dX9_isHourOf_9 : decode cX9_isHourOf 9 = .ok (.invokestatic 122, 3) := by decide +kernel
theorem dX9_isHourOf_12 : decode cX9_isHourOf 12 = .ok (.aload_n 0, 1) := by decide +kernel
theorem dX9_isHourOf_13 : decode cX9_isHourOf 13 = .ok (.getfield 10, 3) := by decide +kernel
theorem dX9_isHourOf_16 : decode cX9_isHourOf 16 = .ok (.getfield 63, 3) := by decide +kernel
theorem dX9_isHourOf_19 : decode cX9_isHourOf 19 = .ok (.iload_n 1, 1) := by decide +kernel
theorem dX9_isHourOf_20 : decode cX9_isHourOf 20 = .ok (.iload_n 2, 1) := by decide +kernel
theorem dX9_isHourOf_21 : decode cX9_isHourOf 21 = .ok (.invokevirtual 126, 3) := by decide +kernel
theorem u_1540 : Cond.methodLink RX9 126 yX2_containsHour ∈ UW := uw 1540 (by decide +kernel) rfl
theorem g_X9_126 : GoodIn UW (wsV RX9 126 RX2 yX2_containsHour (wsU yX2_containsHour cX2_containsHour 5 (some .boolean))) := gV u_1540 u_541 u_542 u_23 u_543
theorem dX9_isHourOf_24 : decode cX9_isHourOf 24 = .ok (.ireturn, 1) := by decide +kernel
def f_X9_isHourOf (q : McV) (v : StV) (x : Int32) (y : Int32) : String × Int32 := (if (f_X9_requireDoor q v x) = "" then (if (f_X9_requireRange y (0 : Int32) (23 : Int32)) = "" then ("", (f_X2_containsHour v.2.2.1 x y)) else ((f_X9_requireRange y (0 : Int32) (23 : Int32)), 0)) else ((f_X9_requireDoor q v x), 0))
set_option maxHeartbeats 4000000 in
set_option maxRecDepth 100000 in
theorem c_X9_isHourOf (l : Launch) (hlf : l.stackTraces = false) (G : GG) (qh0 : Nat) (q_snapshot : Nat) (q_history : Nat) (q_program : Nat) (q_notice : Nat) (va : Nat → Nat) (q : McV) (v : StV) (x : Int32) (y : Int32) : xrMet l yX9_isHourOf cX9_isHourOf 3 (some .boolean) 9 2 12 G (fl [[(qh0, .inr (11, [.ref (va 0), .ref q_snapshot, .int q.1, .ref q_history, .ref q_program, .ref q_notice, .int q.2.1, .int q.2.2]))], [((va 0), .inr (10, [.int v.1, .int v.2.1, .ref (va 1), .ref (va 6), .ref (va 10), .ref (va 13)]))], wDo G (va 1) (va 2) (va 3) (va 4) (va 5) v.2.2.1, wEx G (va 6) (va 7) (va 8) (va 9) v.2.2.2.1, wPe G (va 10) (va 11) (va 12) v.2.2.2.2.1, wAu G (va 13) (va 14) (va 15) (va 16) (va 17) (va 18) (va 19) v.2.2.2.2.2]) [.ref qh0, .int x, .int y] (some (.int ((f_X9_isHourOf q v x y).2))) ((f_X9_isHourOf q v x y).1 = "" ∧ narrow .boolean (.int ((f_X9_isHourOf q v x y).2)) = .int ((f_X9_isHourOf q v x y).2)) (fun E => E = (f_X9_isHourOf q v x y).1 ∧ E ≠ "") := by
  refine xr_start (by decide +kernel) (Nat.le_of_ble_eq_true rfl) ?_
  intro p e s m below meth c hx hb hr hml hts hown hlk hxt hP hK hST ls hl
  have hS : va_S (fun _ => False) s.heap s.heap [] := va_S.rf
  have hown : s.vm.findClass RX9 = some m.cls := hown
  have hl : lv_has ls 3 [(0, .ref qh0), (1, .int x), (2, .int y)] := hl
  have hF : f_X9_isHourOf q v x y = (if (f_X9_requireDoor q v x) = "" then (if (f_X9_requireRange y (0 : Int32) (23 : Int32)) = "" then ("", (f_X2_containsHour v.2.2.1 x y)) else ((f_X9_requireRange y (0 : Int32) (23 : Int32)), 0)) else ((f_X9_requireDoor q v x), 0)) := rfl
  refine lv_aload_n hx hb dX9_isHourOf_0 rfl (lv_at hl 0 rfl) ?_
  refine lv_iload_n hx hb dX9_isHourOf_1 rfl (lv_at hl 1 rfl) ?_
  refine xr_V (own := RX9) (v := none) (st1 := []) (As := [.int x]) (rest := []) (c_X9_requireDoor l hlf G qh0 q_snapshot q_history q_program q_notice va q v x) ⟨hx, hb, hml, hown, hts⟩ g_X9_73 hdv_X9_requireDoor hK hST hS hP [0, 1, 2, 3, 4, 5, 6, 7, 8, 9, 10, 11, 12, 13, 14, 15, 16, 17, 18, 19, 20] rfl (k0 := 0) rfl rfl rfl ⟨Nat.le_of_ble_eq_true rfl, Nat.le_of_ble_eq_true rfl⟩ ⟨Nat.le_of_ble_eq_true rfl, Nat.le_of_ble_eq_true rfl⟩ rfl hl.1 rfl (Nat.le_of_ble_eq_true rfl) dX9_isHourOf_2 rfl (fun E ce q9 H1 hE h1 h2 h3 h4 h5 => xr_out hxt hlk h3 h4 h5 h1 h2 rfl ⟨hE.1.trans (congrArg Prod.fst (hF.trans (if_neg (fun e => hE.2 (hE.1.trans e))))).symm, hE.2⟩ (Nat.le_of_ble_eq_true rfl) (Nat.le_of_ble_eq_true rfl)) (fun b_1 => ?_)
  have hE := b_1.1
  have b_1 := b_1.2
  have hF := hF.trans (if_pos hE)
  refine lv_iload_n hx hb dX9_isHourOf_5 rfl (lv_at hl 2 rfl) ?_
  refine lv_iconst (v := (0 : Int32)) hx hb dX9_isHourOf_6 (by decide) ?_
  refine lv_bipush (v := (23 : Int32)) hx hb dX9_isHourOf_7 (by decide) ?_
  refine xr_S (own := RX9) (v := none) (st1 := []) (As := [.int y, .int (0 : Int32), .int (23 : Int32)]) (rest := []) (c_X9_requireRange l hlf G y (0 : Int32) (23 : Int32)) ⟨hx, hb, hml, hown, hts⟩ g_X9_122 hds_X9_requireRange hK hST hS hP [] rfl ⟨Nat.le_of_ble_eq_true rfl, Nat.le_of_ble_eq_true rfl⟩ ⟨Nat.le_of_ble_eq_true rfl, Nat.le_of_ble_eq_true rfl⟩ rfl hl.1 rfl (Nat.le_of_ble_eq_true rfl) dX9_isHourOf_9 rfl (fun E ce q9 H1 hE h1 h2 h3 h4 h5 => xr_out hxt hlk h3 h4 h5 h1 h2 rfl ⟨hE.1.trans (congrArg Prod.fst (hF.trans (if_neg (fun e => hE.2 (hE.1.trans e))))).symm, hE.2⟩ (Nat.le_of_ble_eq_true rfl) (Nat.le_of_ble_eq_true rfl)) (fun b_2 => ?_)
  have hE := b_2.1
  have b_2 := b_2.2
  have hF := hF.trans (if_pos hE)
  refine lv_aload_n hx hb dX9_isHourOf_12 rfl (lv_at hl 0 rfl) ?_
  refine va_get (D := G.1) (ci := 11) (v := .ref (va 0)) (C := RX9) (T := TX9) (N := 8) hx hb hts uws_X9 hown hK hP 0 rfl rfl 0 (by decide) (hts _ u_1097) (fun _ h9 => h9) rfl dX9_isHourOf_13 ?_
  refine va_get (D := G.1) (ci := 10) (v := .ref (va 1)) (C := RX8) (T := TX8) (N := 6) hx hb hts uws_X8 hown hK hP 1 rfl rfl 2 (by decide) (hts _ u_1028) (fun _ h9 => h9) rfl dX9_isHourOf_16 ?_
  refine lv_iload_n hx hb dX9_isHourOf_19 rfl (lv_at hl 1 rfl) ?_
  refine lv_iload_n hx hb dX9_isHourOf_20 rfl (lv_at hl 2 rfl) ?_
  refine r_V (own := RX9) (v := (some (.int (f_X2_containsHour v.2.2.1 x y)))) (st1 := [.int (f_X2_containsHour v.2.2.1 x y)]) (As := [.int x, .int y]) (rest := []) (c_X2_containsHour l G (va 1) (va 2) (va 3) (va 4) (va 5) v.2.2.1 x y) ⟨hx, hb, hml, hown, hts⟩ g_X9_126 hdv_X2_containsHour hK hST hS hP [2, 3, 4, 5, 6] rfl (k0 := 0) rfl rfl rfl ⟨Nat.le_of_ble_eq_true rfl, Nat.le_of_ble_eq_true rfl⟩ ⟨Nat.le_of_ble_eq_true rfl, Nat.le_of_ble_eq_true rfl⟩ rfl hl.1 rfl (Nat.le_of_ble_eq_true rfl) dX9_isHourOf_21 rfl (fun b_3 => ?_)
  exact x_retI hx hb hr hlk b_3 (by rw [hF]) ⟨congrArg Prod.fst hF, (by rw [hF]; exact (b_3 : narrow .boolean (.int (f_X2_containsHour v.2.2.1 x y)) = .int (f_X2_containsHour v.2.2.1 x y)))⟩ (Nat.le_of_ble_eq_true rfl) (Nat.le_of_ble_eq_true rfl) dX9_isHourOf_24
theorem dX9_hasException_0 : decode cX9_hasException 0 = .ok (.aload_n 0, 1) := by decide +kernel
theorem dX9_hasException_1 : decode cX9_hasException 1 = .ok (.iload_n 1, 1) := by decide +kernel
theorem dX9_hasException_2 : decode cX9_hasException 2 = .ok (.invokevirtual 73, 3) := by decide +kernel
theorem dX9_hasException_5 : decode cX9_hasException 5 = .ok (.aload_n 0, 1) := by decide +kernel
theorem dX9_hasException_6 : decode cX9_hasException 6 = .ok (.getfield 10, 3) := by decide +kernel
theorem dX9_hasException_9 : decode cX9_hasException 9 = .ok (.getfield 92, 3) := by decide +kernel
theorem dX9_hasException_12 : decode cX9_hasException 12 = .ok (.iload_n 1, 1) := by decide +kernel
theorem dX9_hasException_13 : decode cX9_hasException 13 = .ok (.iload_n 2, 1) := by decide +kernel
theorem dX9_hasException_14 : decode cX9_hasException 14 = .ok (.invokevirtual 133, 3) := by decide +kernel
theorem u_1565 : Cond.methodLink RX9 133 yX1_positionOf ∈ UW := uw 1565 (by decide +kernel) rfl
theorem g_X9_133 : GoodIn UW (wsV RX9 133 RX1 yX1_positionOf (wsU yX1_positionOf cX1_positionOf 4 (some .int))) := gV u_1565 u_520 u_521 u_24 u_522
theorem dX9_hasException_17 : decode cX9_hasException 17 = .ok (.iconst (-1), 1) := by decide +kernel
theorem dX9_hasException_18 : decode cX9_hasException 18 = .ok (.if_icmp .eq 7, 3) := by decide +kernel
theorem dX9_hasException_25 : decode cX9_hasException 25 = .ok (.iconst 0, 1) := by decide +kernel
theorem dX9_hasException_26 : decode cX9_hasException 26 = .ok (.ireturn, 1) := by decide +kernel
theorem dX9_hasException_21 : decode cX9_hasException 21 = .ok (.iconst 1, 1) := by decide +kernel
theorem dX9_hasException_22 : decode cX9_hasException 22 = .ok (.goto 4, 3) := by decide +kernel
def f_X9_hasException (q : McV) (v : StV) (x : Int32) (y : Int32) : String × Int32 := (if (f_X9_requireDoor q v x) = "" then (if (f_X1_positionOf v.2.2.2.1 x y) = (-1 : Int32) then ("", (0 : Int32)) else ("", (1 : Int32))) else ((f_X9_requireDoor q v x), 0))
set_option maxHeartbeats 4000000 in
set_option maxRecDepth 100000 in
theorem c_X9_hasException (l : Launch) (hlf : l.stackTraces = false) (G : GG) (qh0 : Nat) (q_snapshot : Nat) (q_history : Nat) (q_program : Nat) (q_notice : Nat) (va : Nat → Nat) (q : McV) (v : StV) (x : Int32) (y : Int32) : xrMet l yX9_hasException cX9_hasException 3 (some .boolean) 9 1 6 G (fl [[(qh0, .inr (11, [.ref (va 0), .ref q_snapshot, .int q.1, .ref q_history, .ref q_program, .ref q_notice, .int q.2.1, .int q.2.2]))], [((va 0), .inr (10, [.int v.1, .int v.2.1, .ref (va 1), .ref (va 6), .ref (va 10), .ref (va 13)]))], wDo G (va 1) (va 2) (va 3) (va 4) (va 5) v.2.2.1, wEx G (va 6) (va 7) (va 8) (va 9) v.2.2.2.1, wPe G (va 10) (va 11) (va 12) v.2.2.2.2.1, wAu G (va 13) (va 14) (va 15) (va 16) (va 17) (va 18) (va 19) v.2.2.2.2.2]) [.ref qh0, .int x, .int y] (some (.int ((f_X9_hasException q v x y).2))) ((f_X9_hasException q v x y).1 = "" ∧ narrow .boolean (.int ((f_X9_hasException q v x y).2)) = .int ((f_X9_hasException q v x y).2)) (fun E => E = (f_X9_hasException q v x y).1 ∧ E ≠ "") := by
  refine xr_start (by decide +kernel) (Nat.le_of_ble_eq_true rfl) ?_
  intro p e s m below meth c hx hb hr hml hts hown hlk hxt hP hK hST ls hl
  have hS : va_S (fun _ => False) s.heap s.heap [] := va_S.rf
  have hown : s.vm.findClass RX9 = some m.cls := hown
  have hl : lv_has ls 3 [(0, .ref qh0), (1, .int x), (2, .int y)] := hl
  have hF : f_X9_hasException q v x y = (if (f_X9_requireDoor q v x) = "" then (if (f_X1_positionOf v.2.2.2.1 x y) = (-1 : Int32) then ("", (0 : Int32)) else ("", (1 : Int32))) else ((f_X9_requireDoor q v x), 0)) := rfl
  refine lv_aload_n hx hb dX9_hasException_0 rfl (lv_at hl 0 rfl) ?_
  refine lv_iload_n hx hb dX9_hasException_1 rfl (lv_at hl 1 rfl) ?_
  refine xr_V (own := RX9) (v := none) (st1 := []) (As := [.int x]) (rest := []) (c_X9_requireDoor l hlf G qh0 q_snapshot q_history q_program q_notice va q v x) ⟨hx, hb, hml, hown, hts⟩ g_X9_73 hdv_X9_requireDoor hK hST hS hP [0, 1, 2, 3, 4, 5, 6, 7, 8, 9, 10, 11, 12, 13, 14, 15, 16, 17, 18, 19, 20] rfl (k0 := 0) rfl rfl rfl ⟨Nat.le_of_ble_eq_true rfl, Nat.le_of_ble_eq_true rfl⟩ ⟨Nat.le_of_ble_eq_true rfl, Nat.le_of_ble_eq_true rfl⟩ rfl hl.1 rfl (Nat.le_of_ble_eq_true rfl) dX9_hasException_2 rfl (fun E ce q9 H1 hE h1 h2 h3 h4 h5 => xr_out hxt hlk h3 h4 h5 h1 h2 rfl ⟨hE.1.trans (congrArg Prod.fst (hF.trans (if_neg (fun e => hE.2 (hE.1.trans e))))).symm, hE.2⟩ (Nat.le_of_ble_eq_true rfl) (Nat.le_of_ble_eq_true rfl)) (fun b_1 => ?_)
  have hE := b_1.1
  have b_1 := b_1.2
  have hF := hF.trans (if_pos hE)
  refine lv_aload_n hx hb dX9_hasException_5 rfl (lv_at hl 0 rfl) ?_
  refine va_get (D := G.1) (ci := 11) (v := .ref (va 0)) (C := RX9) (T := TX9) (N := 8) hx hb hts uws_X9 hown hK hP 0 rfl rfl 0 (by decide) (hts _ u_1097) (fun _ h9 => h9) rfl dX9_hasException_6 ?_
  refine va_get (D := G.1) (ci := 10) (v := .ref (va 6)) (C := RX8) (T := TX8) (N := 6) hx hb hts uws_X8 hown hK hP 1 rfl rfl 3 (by decide) (hts _ u_1030) (fun _ h9 => h9) rfl dX9_hasException_9 ?_
  refine lv_iload_n hx hb dX9_hasException_12 rfl (lv_at hl 1 rfl) ?_
  refine lv_iload_n hx hb dX9_hasException_13 rfl (lv_at hl 2 rfl) ?_
  refine r_V (own := RX9) (v := (some (.int (f_X1_positionOf v.2.2.2.1 x y)))) (st1 := [.int (f_X1_positionOf v.2.2.2.1 x y)]) (As := [.int x, .int y]) (rest := []) (c_X1_positionOf l G (va 6) (va 7) (va 8) (va 9) v.2.2.2.1 x y) ⟨hx, hb, hml, hown, hts⟩ g_X9_133 hdv_X1_positionOf hK hST hS hP [7, 8, 9, 10] rfl (k0 := 0) rfl rfl rfl ⟨Nat.le_of_ble_eq_true rfl, Nat.le_of_ble_eq_true rfl⟩ ⟨Nat.le_of_ble_eq_true rfl, Nat.le_of_ble_eq_true rfl⟩ rfl hl.1 rfl (Nat.le_of_ble_eq_true rfl) dX9_hasException_14 rfl (fun b_2 => ?_)
  refine lv_iconst (v := (-1 : Int32)) hx hb dX9_hasException_17 (by decide) ?_
  refine lv_icmp_eq (tgt := 25) hx hb dX9_hasException_18 (by decide) (fun c_3 => ?_) (fun c_3 => ?_)
  · have hF := hF.trans (if_pos c_3)
    refine lv_iconst (v := (0 : Int32)) hx hb dX9_hasException_25 (by decide) ?_
    exact x_retI hx hb hr hlk rfl (by rw [hF]) ⟨congrArg Prod.fst hF, (by rw [hF]; exact (rfl : narrow .boolean (.int (0 : Int32)) = .int (0 : Int32)))⟩ (Nat.le_of_ble_eq_true rfl) (Nat.le_of_ble_eq_true rfl) dX9_hasException_26
  · have hF := hF.trans (if_neg c_3)
    refine lv_iconst (v := (1 : Int32)) hx hb dX9_hasException_21 (by decide) ?_
    refine lv_goto (tgt := 26) hx hb dX9_hasException_22 (by decide) ?_
    exact x_retI hx hb hr hlk rfl (by rw [hF]) ⟨congrArg Prod.fst hF, (by rw [hF]; exact (rfl : narrow .boolean (.int (1 : Int32)) = .int (1 : Int32)))⟩ (Nat.le_of_ble_eq_true rfl) (Nat.le_of_ble_eq_true rfl) dX9_hasException_26
theorem dX9_hasKey_0 : decode cX9_hasKey 0 = .ok (.aload_n 0, 1) := by decide +kernel
theorem dX9_hasKey_1 : decode cX9_hasKey 1 = .ok (.iload_n 1, 1) := by decide +kernel
theorem dX9_hasKey_2 : decode cX9_hasKey 2 = .ok (.invokevirtual 189, 3) := by decide +kernel
theorem dX9_hasKey_5 : decode cX9_hasKey 5 = .ok (.aload_n 0, 1) := by decide +kernel
theorem dX9_hasKey_6 : decode cX9_hasKey 6 = .ok (.getfield 10, 3) := by decide +kernel
theorem dX9_hasKey_9 : decode cX9_hasKey 9 = .ok (.getfield 151, 3) := by decide +kernel
theorem dX9_hasKey_12 : decode cX9_hasKey 12 = .ok (.iload_n 1, 1) := by decide +kernel
theorem dX9_hasKey_13 : decode cX9_hasKey 13 = .ok (.iload_n 2, 1) := by decide +kernel
theorem dX9_hasKey_14 : decode cX9_hasKey 14 = .ok (.invokevirtual 192, 3) := by decide +kernel
theorem u_1473 : Cond.methodLink RX9 192 yX5_ringContains ∈ UW := uw 1473 (by decide +kernel) rfl
theorem g_X9_192 : GoodIn UW (wsV RX9 192 RX5 yX5_ringContains (wsU yX5_ringContains cX5_ringContains 3 (some .boolean))) := gV u_1473 u_748 u_749 u_25 u_750
theorem dX9_hasKey_17 : decode cX9_hasKey 17 = .ok (.ireturn, 1) := by decide +kernel
def f_X9_hasKey (q : McV) (v : StV) (x : Int32) (y : Int32) : String × Int32 := (if (f_X9_requirePerson q v x) = "" then ("", (f_X5_ringContains v.2.2.2.2.1 x y)) else ((f_X9_requirePerson q v x), 0))
set_option maxHeartbeats 4000000 in
set_option maxRecDepth 100000 in
theorem c_X9_hasKey (l : Launch) (hlf : l.stackTraces = false) (G : GG) (qh0 : Nat) (q_snapshot : Nat) (q_history : Nat) (q_program : Nat) (q_notice : Nat) (va : Nat → Nat) (q : McV) (v : StV) (x : Int32) (y : Int32) : xrMet l yX9_hasKey cX9_hasKey 3 (some .boolean) 9 1 6 G (fl [[(qh0, .inr (11, [.ref (va 0), .ref q_snapshot, .int q.1, .ref q_history, .ref q_program, .ref q_notice, .int q.2.1, .int q.2.2]))], [((va 0), .inr (10, [.int v.1, .int v.2.1, .ref (va 1), .ref (va 6), .ref (va 10), .ref (va 13)]))], wDo G (va 1) (va 2) (va 3) (va 4) (va 5) v.2.2.1, wEx G (va 6) (va 7) (va 8) (va 9) v.2.2.2.1, wPe G (va 10) (va 11) (va 12) v.2.2.2.2.1, wAu G (va 13) (va 14) (va 15) (va 16) (va 17) (va 18) (va 19) v.2.2.2.2.2]) [.ref qh0, .int x, .int y] (some (.int ((f_X9_hasKey q v x y).2))) ((f_X9_hasKey q v x y).1 = "" ∧ narrow .boolean (.int ((f_X9_hasKey q v x y).2)) = .int ((f_X9_hasKey q v x y).2)) (fun E => E = (f_X9_hasKey q v x y).1 ∧ E ≠ "") := by
  refine xr_start (by decide +kernel) (Nat.le_of_ble_eq_true rfl) ?_
  intro p e s m below meth c hx hb hr hml hts hown hlk hxt hP hK hST ls hl
  have hS : va_S (fun _ => False) s.heap s.heap [] := va_S.rf
  have hown : s.vm.findClass RX9 = some m.cls := hown
  have hl : lv_has ls 3 [(0, .ref qh0), (1, .int x), (2, .int y)] := hl
  have hF : f_X9_hasKey q v x y = (if (f_X9_requirePerson q v x) = "" then ("", (f_X5_ringContains v.2.2.2.2.1 x y)) else ((f_X9_requirePerson q v x), 0)) := rfl
  refine lv_aload_n hx hb dX9_hasKey_0 rfl (lv_at hl 0 rfl) ?_
  refine lv_iload_n hx hb dX9_hasKey_1 rfl (lv_at hl 1 rfl) ?_
  refine xr_V (own := RX9) (v := none) (st1 := []) (As := [.int x]) (rest := []) (c_X9_requirePerson l hlf G qh0 q_snapshot q_history q_program q_notice va q v x) ⟨hx, hb, hml, hown, hts⟩ g_X9_189 hdv_X9_requirePerson hK hST hS hP [0, 1, 2, 3, 4, 5, 6, 7, 8, 9, 10, 11, 12, 13, 14, 15, 16, 17, 18, 19, 20] rfl (k0 := 0) rfl rfl rfl ⟨Nat.le_of_ble_eq_true rfl, Nat.le_of_ble_eq_true rfl⟩ ⟨Nat.le_of_ble_eq_true rfl, Nat.le_of_ble_eq_true rfl⟩ rfl hl.1 rfl (Nat.le_of_ble_eq_true rfl) dX9_hasKey_2 rfl (fun E ce q9 H1 hE h1 h2 h3 h4 h5 => xr_out hxt hlk h3 h4 h5 h1 h2 rfl ⟨hE.1.trans (congrArg Prod.fst (hF.trans (if_neg (fun e => hE.2 (hE.1.trans e))))).symm, hE.2⟩ (Nat.le_of_ble_eq_true rfl) (Nat.le_of_ble_eq_true rfl)) (fun b_1 => ?_)
  have hE := b_1.1
  have b_1 := b_1.2
  have hF := hF.trans (if_pos hE)
  refine lv_aload_n hx hb dX9_hasKey_5 rfl (lv_at hl 0 rfl) ?_
  refine va_get (D := G.1) (ci := 11) (v := .ref (va 0)) (C := RX9) (T := TX9) (N := 8) hx hb hts uws_X9 hown hK hP 0 rfl rfl 0 (by decide) (hts _ u_1097) (fun _ h9 => h9) rfl dX9_hasKey_6 ?_
  refine va_get (D := G.1) (ci := 10) (v := .ref (va 10)) (C := RX8) (T := TX8) (N := 6) hx hb hts uws_X8 hown hK hP 1 rfl rfl 4 (by decide) (hts _ u_1032) (fun _ h9 => h9) rfl dX9_hasKey_9 ?_
  refine lv_iload_n hx hb dX9_hasKey_12 rfl (lv_at hl 1 rfl) ?_
  refine lv_iload_n hx hb dX9_hasKey_13 rfl (lv_at hl 2 rfl) ?_
  refine r_V (own := RX9) (v := (some (.int (f_X5_ringContains v.2.2.2.2.1 x y)))) (st1 := [.int (f_X5_ringContains v.2.2.2.2.1 x y)]) (As := [.int x, .int y]) (rest := []) (c_X5_ringContains l G (va 10) (va 11) (va 12) v.2.2.2.2.1 x y) ⟨hx, hb, hml, hown, hts⟩ g_X9_192 hdv_X5_ringContains hK hST hS hP [11, 12, 13] rfl (k0 := 0) rfl rfl rfl ⟨Nat.le_of_ble_eq_true rfl, Nat.le_of_ble_eq_true rfl⟩ ⟨Nat.le_of_ble_eq_true rfl, Nat.le_of_ble_eq_true rfl⟩ rfl hl.1 rfl (Nat.le_of_ble_eq_true rfl) dX9_hasKey_14 rfl (fun b_2 => ?_)
  exact x_retI hx hb hr hlk b_2 (by rw [hF]) ⟨congrArg Prod.fst hF, (by rw [hF]; exact (b_2 : narrow .boolean (.int (f_X5_ringContains v.2.2.2.2.1 x y)) = .int (f_X5_ringContains v.2.2.2.2.1 x y)))⟩ (Nat.le_of_ble_eq_true rfl) (Nat.le_of_ble_eq_true rfl) dX9_hasKey_17
