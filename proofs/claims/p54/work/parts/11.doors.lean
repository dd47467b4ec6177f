theorem dX2_faultOfRule_0 : decode cX2_faultOfRule 0 = .ok (.iload_n 0, 1) := by decide +kernel
theorem dX2_faultOfRule_1 : decode cX2_faultOfRule 1 = .ok (.ifCond .lt 44, 3) := by decide +kernel
theorem dX2_faultOfRule_45 : decode cX2_faultOfRule 45 = .ok (.iconst 0, 1) := by decide +kernel
theorem dX2_faultOfRule_46 : decode cX2_faultOfRule 46 = .ok (.istore 4, 2) := by decide +kernel
theorem dX2_faultOfRule_48 : decode cX2_faultOfRule 48 = .ok (.iload 4, 2) := by decide +kernel
theorem dX2_faultOfRule_50 : decode cX2_faultOfRule 50 = .ok (.ifCond .eq 9, 3) := by decide +kernel
theorem dX2_faultOfRule_59 : decode cX2_faultOfRule 59 = .ok (.getstatic 34, 3) := by decide +kernel
theorem u_1137 : Cond.fieldLink RX2 34 "MoonlitDoors$Fault" "ARGUMENT" "LMoonlitDoors$Fault;" ∈ UW := uw 1137 (by decide +kernel) rfl
theorem dX2_faultOfRule_62 : decode cX2_faultOfRule 62 = .ok (.areturn, 1) := by decide +kernel
theorem dX2_faultOfRule_4 : decode cX2_faultOfRule 4 = .ok (.iload_n 0, 1) := by decide +kernel
theorem dX2_faultOfRule_5 : decode cX2_faultOfRule 5 = .ok (.sipush 255, 3) := by decide +kernel
theorem dX2_faultOfRule_8 : decode cX2_faultOfRule 8 = .ok (.if_icmp .gt 37, 3) := by decide +kernel
theorem dX2_faultOfRule_11 : decode cX2_faultOfRule 11 = .ok (.iload_n 1, 1) := by decide +kernel
theorem dX2_faultOfRule_12 : decode cX2_faultOfRule 12 = .ok (.ifCond .lt 33, 3) := by decide +kernel
theorem dX2_faultOfRule_15 : decode cX2_faultOfRule 15 = .ok (.iload_n 1, 1) := by decide +kernel
theorem dX2_faultOfRule_16 : decode cX2_faultOfRule 16 = .ok (.bipush 24, 2) := by decide +kernel
theorem dX2_faultOfRule_18 : decode cX2_faultOfRule 18 = .ok (.if_icmp .ge 27, 3) := by decide +kernel
theorem dX2_faultOfRule_21 : decode cX2_faultOfRule 21 = .ok (.iload_n 2, 1) := by decide +kernel
theorem dX2_faultOfRule_22 : decode cX2_faultOfRule 22 = .ok (.ifCond .lt 23, 3) := by decide +kernel
theorem dX2_faultOfRule_25 : decode cX2_faultOfRule 25 = .ok (.iload_n 2, 1) := by decide +kernel
theorem dX2_faultOfRule_26 : decode cX2_faultOfRule 26 = .ok (.bipush 24, 2) := by decide +kernel
theorem dX2_faultOfRule_28 : decode cX2_faultOfRule 28 = .ok (.if_icmp .ge 17, 3) := by decide +kernel
theorem dX2_faultOfRule_31 : decode cX2_faultOfRule 31 = .ok (.iload_n 3, 1) := by decide +kernel
theorem dX2_faultOfRule_32 : decode cX2_faultOfRule 32 = .ok (.ifCond .lt 13, 3) := by decide +kernel
theorem dX2_faultOfRule_35 : decode cX2_faultOfRule 35 = .ok (.iload_n 3, 1) := by decide +kernel
theorem dX2_faultOfRule_36 : decode cX2_faultOfRule 36 = .ok (.bipush 8, 2) := by decide +kernel
theorem dX2_faultOfRule_38 : decode cX2_faultOfRule 38 = .ok (.if_icmp .ge 7, 3) := by decide +kernel
theorem dX2_faultOfRule_41 : decode cX2_faultOfRule 41 = .ok (.iconst 1, 1) := by decide +kernel
theorem dX2_faultOfRule_42 : decode cX2_faultOfRule 42 = .ok (.goto 4, 3) := by decide +kernel
theorem dX2_faultOfRule_53 : decode cX2_faultOfRule 53 = .ok (.getstatic 28, 3) := by decide +kernel
theorem u_1136 : Cond.fieldLink RX2 28 "MoonlitDoors$Fault" "NOTHING" "LMoonlitDoors$Fault;" ∈ UW := uw 1136 (by decide +kernel) rfl
theorem dX2_faultOfRule_56 : decode cX2_faultOfRule 56 = .ok (.goto 6, 3) := by decide +kernel
def f_X2_faultOfRule (ph : Int32) (fh : Int32) (lh : Int32) (k : Int32) : Nat := (if ph < (0 : Int32) then 2 else (if (255 : Int32) < ph then 2 else (if fh < (0 : Int32) then 2 else (if (24 : Int32) ≤ fh then 2 else (if lh < (0 : Int32) then 2 else (if (24 : Int32) ≤ lh then 2 else (if k < (0 : Int32) then 2 else (if (8 : Int32) ≤ k then 2 else 0))))))))
set_option maxHeartbeats 4000000 in
set_option maxRecDepth 100000 in
theorem c_X2_faultOfRule (l : Launch) (G : GG)  (ph : Int32) (fh : Int32) (lh : Int32) (k : Int32) : rMet l yX2_faultOfRule cX2_faultOfRule 5 (some (.object "MoonlitDoors$Fault")) 1 G (fl []) [.int ph, .int fh, .int lh, .int k] (some (.ref (G.2.2.1 (f_X2_faultOfRule ph fh lh k)))) ((f_X2_faultOfRule ph fh lh k) < 6) := by
  refine r_start (by decide +kernel) (Nat.le_of_ble_eq_true rfl) ?_
  intro p e s m below meth c hx hb hr hml hts hown hlk hP hK hST ls hl
  have hS : va_S (fun _ => False) s.heap s.heap [] := va_S.rf
  have hown : s.vm.findClass RX2 = some m.cls := hown
  have hl : lv_has ls 5 [(0, .int ph), (1, .int fh), (2, .int lh), (3, .int k)] := hl
  have hF : f_X2_faultOfRule ph fh lh k = (if ph < (0 : Int32) then 2 else (if (255 : Int32) < ph then 2 else (if fh < (0 : Int32) then 2 else (if (24 : Int32) ≤ fh then 2 else (if lh < (0 : Int32) then 2 else (if (24 : Int32) ≤ lh then 2 else (if k < (0 : Int32) then 2 else (if (8 : Int32) ≤ k then 2 else 0)))))))) := rfl
  refine lv_iload_n hx hb dX2_faultOfRule_0 rfl (lv_at hl 0 rfl) ?_
  refine lv_if_lt (tgt := 45) hx hb dX2_faultOfRule_1 (by decide) (fun c_1 => ?_) (fun c_1 => ?_)
  · have hF := hF.trans (if_pos c_1)
    refine lv_iconst (v := (0 : Int32)) hx hb dX2_faultOfRule_45 (by decide) ?_
    refine lv_istore (lv' := [(4, .int (0 : Int32)), (0, .int ph), (1, .int fh), (2, .int lh), (3, .int k)]) hx hb dX2_faultOfRule_46 hl (by decide) rfl (fun ls hl => ?_)
    refine lv_iload hx hb dX2_faultOfRule_48 (lv_at hl 0 rfl) ?_
    refine lv_if_eq (tgt := 59) hx hb dX2_faultOfRule_50 (by decide) (fun c_2 => ?_) (fun c_2 => ?_)
    · refine va_gets (C := RX3) (n := "ARGUMENT") (d := "LMoonlitDoors$Fault;") hx hb (hST.1 2 (by decide)) hS hown (hts _ u_1137) (fun _ h9 => h9) dX2_faultOfRule_59 ?_
      exact r_retA hx hb hr hlk (Or.inl ⟨_, rfl⟩) (Or.inr ⟨_, rfl⟩) (by rw [hF]) (by rw [hF]; exact ((by decide) : 2 < 6)) dX2_faultOfRule_62
    · exact absurd c_2 (by decide)
  · have hF := hF.trans (if_neg c_1)
    refine lv_iload_n hx hb dX2_faultOfRule_4 rfl (lv_at hl 0 rfl) ?_
    refine lv_sipush (v := (255 : Int32)) hx hb dX2_faultOfRule_5 (by decide) ?_
    refine lv_icmp_gt (tgt := 45) hx hb dX2_faultOfRule_8 (by decide) (fun c_3 => ?_) (fun c_3 => ?_)
    · have hF := hF.trans (if_pos c_3)
      refine lv_iconst (v := (0 : Int32)) hx hb dX2_faultOfRule_45 (by decide) ?_
      refine lv_istore (lv' := [(4, .int (0 : Int32)), (0, .int ph), (1, .int fh), (2, .int lh), (3, .int k)]) hx hb dX2_faultOfRule_46 hl (by decide) rfl (fun ls hl => ?_)
      refine lv_iload hx hb dX2_faultOfRule_48 (lv_at hl 0 rfl) ?_
      refine lv_if_eq (tgt := 59) hx hb dX2_faultOfRule_50 (by decide) (fun c_4 => ?_) (fun c_4 => ?_)
      · refine va_gets (C := RX3) (n := "ARGUMENT") (d := "LMoonlitDoors$Fault;") hx hb (hST.1 2 (by decide)) hS hown (hts _ u_1137) (fun _ h9 => h9) dX2_faultOfRule_59 ?_
        exact r_retA hx hb hr hlk (Or.inl ⟨_, rfl⟩) (Or.inr ⟨_, rfl⟩) (by rw [hF]) (by rw [hF]; exact ((by decide) : 2 < 6)) dX2_faultOfRule_62
      · exact absurd c_4 (by decide)
    · have hF := hF.trans (if_neg c_3)
      refine lv_iload_n hx hb dX2_faultOfRule_11 rfl (lv_at hl 1 rfl) ?_
      refine lv_if_lt (tgt := 45) hx hb dX2_faultOfRule_12 (by decide) (fun c_5 => ?_) (fun c_5 => ?_)
      · have hF := hF.trans (if_pos c_5)
        refine lv_iconst (v := (0 : Int32)) hx hb dX2_faultOfRule_45 (by decide) ?_
        refine lv_istore (lv' := [(4, .int (0 : Int32)), (0, .int ph), (1, .int fh), (2, .int lh), (3, .int k)]) hx hb dX2_faultOfRule_46 hl (by decide) rfl (fun ls hl => ?_)
        refine lv_iload hx hb dX2_faultOfRule_48 (lv_at hl 0 rfl) ?_
        refine lv_if_eq (tgt := 59) hx hb dX2_faultOfRule_50 (by decide) (fun c_6 => ?_) (fun c_6 => ?_)
        · refine va_gets (C := RX3) (n := "ARGUMENT") (d := "LMoonlitDoors$Fault;") hx hb (hST.1 2 (by decide)) hS hown (hts _ u_1137) (fun _ h9 => h9) dX2_faultOfRule_59 ?_
          exact r_retA hx hb hr hlk (Or.inl ⟨_, rfl⟩) (Or.inr ⟨_, rfl⟩) (by rw [hF]) (by rw [hF]; exact ((by decide) : 2 < 6)) dX2_faultOfRule_62
        · exact absurd c_6 (by decide)
      · have hF := hF.trans (if_neg c_5)
        refine lv_iload_n hx hb dX2_faultOfRule_15 rfl (lv_at hl 1 rfl) ?_
        refine lv_bipush (v := (24 : Int32)) hx hb dX2_faultOfRule_16 (by decide) ?_
        refine lv_icmp_ge (tgt := 45) hx hb dX2_faultOfRule_18 (by decide) (fun c_7 => ?_) (fun c_7 => ?_)
        · have hF := hF.trans (if_pos c_7)
          refine lv_iconst (v := (0 : Int32)) hx hb dX2_faultOfRule_45 (by decide) ?_
          refine lv_istore (lv' := [(4, .int (0 : Int32)), (0, .int ph), (1, .int fh), (2, .int lh), (3, .int k)]) hx hb dX2_faultOfRule_46 hl (by decide) rfl (fun ls hl => ?_)
          refine lv_iload hx hb dX2_faultOfRule_48 (lv_at hl 0 rfl) ?_
          refine lv_if_eq (tgt := 59) hx hb dX2_faultOfRule_50 (by decide) (fun c_8 => ?_) (fun c_8 => ?_)
          · refine va_gets (C := RX3) (n := "ARGUMENT") (d := "LMoonlitDoors$Fault;") hx hb (hST.1 2 (by decide)) hS hown (hts _ u_1137) (fun _ h9 => h9) dX2_faultOfRule_59 ?_
            exact r_retA hx hb hr hlk (Or.inl ⟨_, rfl⟩) (Or.inr ⟨_, rfl⟩) (by rw [hF]) (by rw [hF]; exact ((by decide) : 2 < 6)) dX2_faultOfRule_62
          · exact absurd c_8 (by decide)
        · have hF := hF.trans (if_neg c_7)
          refine lv_iload_n hx hb dX2_faultOfRule_21 rfl (lv_at hl 2 rfl) ?_
          refine lv_if_lt (tgt := 45) hx hb dX2_faultOfRule_22 (by decide) (fun c_9 => ?_) (fun c_9 => ?_)
          · have hF := hF.trans (if_pos c_9)
            refine lv_iconst (v := (0 : Int32)) hx hb dX2_faultOfRule_45 (by decide) ?_
            refine lv_istore (lv' := [(4, .int (0 : Int32)), (0, .int ph), (1, .int fh), (2, .int lh), (3, .int k)]) hx hb dX2_faultOfRule_46 hl (by decide) rfl (fun ls hl => ?_)
            refine lv_iload hx hb dX2_faultOfRule_48 (lv_at hl 0 rfl) ?_
            refine lv_if_eq (tgt := 59) hx hb dX2_faultOfRule_50 (by decide) (fun c_10 => ?_) (fun c_10 => ?_)
            · refine va_gets (C := RX3) (n := "ARGUMENT") (d := "LMoonlitDoors$Fault;") hx hb (hST.1 2 (by decide)) hS hown (hts _ u_1137) (fun _ h9 => h9) dX2_faultOfRule_59 ?_
              exact r_retA hx hb hr hlk (Or.inl ⟨_, rfl⟩) (Or.inr ⟨_, rfl⟩) (by rw [hF]) (by rw [hF]; exact ((by decide) : 2 < 6)) dX2_faultOfRule_62
            · exact absurd c_10 (by decide)
          · have hF := hF.trans (if_neg c_9)
            refine lv_iload_n hx hb dX2_faultOfRule_25 rfl (lv_at hl 2 rfl) ?_
            refine lv_bipush (v := (24 : Int32)) hx hb dX2_faultOfRule_26 (by decide) ?_
            refine lv_icmp_ge (tgt := 45) hx hb dX2_faultOfRule_28 (by decide) (fun c_11 => ?_) (fun c_11 => ?_)
            · have hF := hF.trans (if_pos c_11)
              refine lv_iconst (v := (0 : Int32)) hx hb dX2_faultOfRule_45 (by decide) ?_
              refine lv_istore (lv' := [(4, .int (0 : Int32)), (0, .int ph), (1, .int fh), (2, .int lh), (3, .int k)]) hx hb dX2_faultOfRule_46 hl (by decide) rfl (fun ls hl => ?_)
              refine lv_iload hx hb dX2_faultOfRule_48 (lv_at hl 0 rfl) ?_
              refine lv_if_eq (tgt := 59) hx hb dX2_faultOfRule_50 (by decide) (fun c_12 => ?_) (fun c_12 => ?_)
              · refine va_gets (C := RX3) (n := "ARGUMENT") (d := "LMoonlitDoors$Fault;") hx hb (hST.1 2 (by decide)) hS hown (hts _ u_1137) (fun _ h9 => h9) dX2_faultOfRule_59 ?_
                exact r_retA hx hb hr hlk (Or.inl ⟨_, rfl⟩) (Or.inr ⟨_, rfl⟩) (by rw [hF]) (by rw [hF]; exact ((by decide) : 2 < 6)) dX2_faultOfRule_62
              · exact absurd c_12 (by decide)
            · have hF := hF.trans (if_neg c_11)
              refine lv_iload_n hx hb dX2_faultOfRule_31 rfl (lv_at hl 3 rfl) ?_
              refine lv_if_lt (tgt := 45) hx hb dX2_faultOfRule_32 (by decide) (fun c_13 => ?_) (fun c_13 => ?_)
              · have hF := hF.trans (if_pos c_13)
                refine lv_iconst (v := (0 : Int32)) hx hb dX2_faultOfRule_45 (by decide) ?_
                refine lv_istore (lv' := [(4, .int (0 : Int32)), (0, .int ph), (1, .int fh), (2, .int lh), (3, .int k)]) hx hb dX2_faultOfRule_46 hl (by decide) rfl (fun ls hl => ?_)
                refine lv_iload hx hb dX2_faultOfRule_48 (lv_at hl 0 rfl) ?_
                refine lv_if_eq (tgt := 59) hx hb dX2_faultOfRule_50 (by decide) (fun c_14 => ?_) (fun c_14 => ?_)
                · refine va_gets (C := RX3) (n := "ARGUMENT") (d := "LMoonlitDoors$Fault;") hx hb (hST.1 2 (by decide)) hS hown (hts _ u_1137) (fun _ h9 => h9) dX2_faultOfRule_59 ?_
                  exact r_retA hx hb hr hlk (Or.inl ⟨_, rfl⟩) (Or.inr ⟨_, rfl⟩) (by rw [hF]) (by rw [hF]; exact ((by decide) : 2 < 6)) dX2_faultOfRule_62
                · exact absurd c_14 (by decide)
              · have hF := hF.trans (if_neg c_13)
                refine lv_iload_n hx hb dX2_faultOfRule_35 rfl (lv_at hl 3 rfl) ?_
                refine lv_bipush (v := (8 : Int32)) hx hb dX2_faultOfRule_36 (by decide) ?_
                refine lv_icmp_ge (tgt := 45) hx hb dX2_faultOfRule_38 (by decide) (fun c_15 => ?_) (fun c_15 => ?_)
                · have hF := hF.trans (if_pos c_15)
                  refine lv_iconst (v := (0 : Int32)) hx hb dX2_faultOfRule_45 (by decide) ?_
                  refine lv_istore (lv' := [(4, .int (0 : Int32)), (0, .int ph), (1, .int fh), (2, .int lh), (3, .int k)]) hx hb dX2_faultOfRule_46 hl (by decide) rfl (fun ls hl => ?_)
                  refine lv_iload hx hb dX2_faultOfRule_48 (lv_at hl 0 rfl) ?_
                  refine lv_if_eq (tgt := 59) hx hb dX2_faultOfRule_50 (by decide) (fun c_16 => ?_) (fun c_16 => ?_)
                  · refine va_gets (C := RX3) (n := "ARGUMENT") (d := "LMoonlitDoors$Fault;") hx hb (hST.1 2 (by decide)) hS hown (hts _ u_1137) (fun _ h9 => h9) dX2_faultOfRule_59 ?_
                    exact r_retA hx hb hr hlk (Or.inl ⟨_, rfl⟩) (Or.inr ⟨_, rfl⟩) (by rw [hF]) (by rw [hF]; exact ((by decide) : 2 < 6)) dX2_faultOfRule_62
                  · exact absurd c_16 (by decide)
                · have hF := hF.trans (if_neg c_15)
                  refine lv_iconst (v := (1 : Int32)) hx hb dX2_faultOfRule_41 (by decide) ?_
                  refine lv_goto (tgt := 46) hx hb dX2_faultOfRule_42 (by decide) ?_
                  refine lv_istore (lv' := [(4, .int (1 : Int32)), (0, .int ph), (1, .int fh), (2, .int lh), (3, .int k)]) hx hb dX2_faultOfRule_46 hl (by decide) rfl (fun ls hl => ?_)
                  refine lv_iload hx hb dX2_faultOfRule_48 (lv_at hl 0 rfl) ?_
                  refine lv_if_eq (tgt := 59) hx hb dX2_faultOfRule_50 (by decide) (fun c_17 => ?_) (fun c_17 => ?_)
                  · exact absurd c_17 (by decide)
                  · refine va_gets (C := RX3) (n := "NOTHING") (d := "LMoonlitDoors$Fault;") hx hb (hST.1 0 (by decide)) hS hown (hts _ u_1136) (fun _ h9 => h9) dX2_faultOfRule_53 ?_
                    refine lv_goto (tgt := 62) hx hb dX2_faultOfRule_56 (by decide) ?_
                    exact r_retA hx hb hr hlk (Or.inl ⟨_, rfl⟩) (Or.inr ⟨_, rfl⟩) (by rw [hF]) (by rw [hF]; exact ((by decide) : 0 < 6)) dX2_faultOfRule_62
theorem dX2_holds_0 : decode cX2_holds 0 = .ok (.iload_n 1, 1) := by decide +kernel
theorem dX2_holds_1 : decode cX2_holds 1 = .ok (.ifCond .lt 15, 3) := by decide +kernel
theorem dX2_holds_16 : decode cX2_holds 16 = .ok (.iconst 0, 1) := by decide +kernel
theorem dX2_holds_17 : decode cX2_holds 17 = .ok (.ireturn, 1) := by decide +kernel
theorem dX2_holds_4 : decode cX2_holds 4 = .ok (.iload_n 1, 1) := by decide +kernel
theorem dX2_holds_5 : decode cX2_holds 5 = .ok (.aload_n 0, 1) := by decide +kernel
theorem dX2_holds_6 : decode cX2_holds 6 = .ok (.getfield 9, 3) := by decide +kernel
theorem uws_X2 : ∀ w ∈ wsX20, w ∈ UW := uw_all [947, 949, 951, 953, 955] (by decide +kernel) (by decide +kernel)
theorem u_940 : Cond.fieldLink RX2 9 "MoonlitDoors$Doors" "count" "I" ∈ UW := uw 940 (by decide +kernel) rfl
theorem dX2_holds_9 : decode cX2_holds 9 = .ok (.if_icmp .ge 7, 3) := by decide +kernel
theorem dX2_holds_12 : decode cX2_holds 12 = .ok (.iconst 1, 1) := by decide +kernel
theorem dX2_holds_13 : decode cX2_holds 13 = .ok (.goto 4, 3) := by decide +kernel
def f_X2_holds (d : DoV) (i : Int32) : Int32 := (if i < (0 : Int32) then (0 : Int32) else (if d.1 ≤ i then (0 : Int32) else (1 : Int32)))
set_option maxHeartbeats 4000000 in
set_option maxRecDepth 100000 in
theorem c_X2_holds (l : Launch) (G : GG) (dh0 : Nat) (dh1 : Nat) (dh2 : Nat) (dh3 : Nat) (dh4 : Nat) (d : DoV) (i : Int32) : rMet l yX2_holds cX2_holds 2 (some .boolean) 1 G (fl [wDo G dh0 dh1 dh2 dh3 dh4 d]) [.ref dh0, .int i] (some (.int (f_X2_holds d i))) (narrow .boolean (.int (f_X2_holds d i)) = .int (f_X2_holds d i)) := by
  refine r_start (by decide +kernel) (Nat.le_of_ble_eq_true rfl) ?_
  intro p e s m below meth c hx hb hr hml hts hown hlk hP hK hST ls hl
  have hS : va_S (fun _ => False) s.heap s.heap [] := va_S.rf
  have hown : s.vm.findClass RX2 = some m.cls := hown
  have hl : lv_has ls 2 [(0, .ref dh0), (1, .int i)] := hl
  have hF : f_X2_holds d i = (if i < (0 : Int32) then (0 : Int32) else (if d.1 ≤ i then (0 : Int32) else (1 : Int32))) := rfl
  refine lv_iload_n hx hb dX2_holds_0 rfl (lv_at hl 1 rfl) ?_
  refine lv_if_lt (tgt := 16) hx hb dX2_holds_1 (by decide) (fun c_1 => ?_) (fun c_1 => ?_)
  · have hF := hF.trans (if_pos c_1)
    refine lv_iconst (v := (0 : Int32)) hx hb dX2_holds_16 (by decide) ?_
    exact r_ret hx hb hr hlk rfl (by rw [hF]) (by rw [hF]; exact (rfl : narrow .boolean (.int (0 : Int32)) = .int (0 : Int32))) dX2_holds_17
  · have hF := hF.trans (if_neg c_1)
    refine lv_iload_n hx hb dX2_holds_4 rfl (lv_at hl 1 rfl) ?_
    refine lv_aload_n hx hb dX2_holds_5 rfl (lv_at hl 0 rfl) ?_
    refine va_get (D := G.1) (ci := 6) (v := .int d.1) (C := RX2) (T := TX2) (N := 5) hx hb hts uws_X2 hown hK hP 0 rfl rfl 0 (by decide) (hts _ u_940) (fun _ h9 => h9) rfl dX2_holds_6 ?_
    refine lv_icmp_ge (tgt := 16) hx hb dX2_holds_9 (by decide) (fun c_2 => ?_) (fun c_2 => ?_)
    · have hF := hF.trans (if_pos c_2)
      refine lv_iconst (v := (0 : Int32)) hx hb dX2_holds_16 (by decide) ?_
      exact r_ret hx hb hr hlk rfl (by rw [hF]) (by rw [hF]; exact (rfl : narrow .boolean (.int (0 : Int32)) = .int (0 : Int32))) dX2_holds_17
    · have hF := hF.trans (if_neg c_2)
      refine lv_iconst (v := (1 : Int32)) hx hb dX2_holds_12 (by decide) ?_
      refine lv_goto (tgt := 17) hx hb dX2_holds_13 (by decide) ?_
      exact r_ret hx hb hr hlk rfl (by rw [hF]) (by rw [hF]; exact (rfl : narrow .boolean (.int (1 : Int32)) = .int (1 : Int32))) dX2_holds_17
theorem dX2_write_0 : decode cX2_write 0 = .ok (.aload_n 0, 1) := by decide +kernel
theorem dX2_write_1 : decode cX2_write 1 = .ok (.getfield 15, 3) := by decide +kernel
theorem u_943 : Cond.fieldLink RX2 15 "MoonlitDoors$Doors" "phaseSets" "[I" ∈ UW := uw 943 (by decide +kernel) rfl
theorem dX2_write_4 : decode cX2_write 4 = .ok (.iload_n 1, 1) := by decide +kernel
theorem dX2_write_5 : decode cX2_write 5 = .ok (.iload_n 2, 1) := by decide +kernel
theorem dX2_write_6 : decode cX2_write 6 = .ok (.invokestatic 41, 3) := by decide +kernel
theorem u_1146 : Cond.methodLink RX2 41 yX7_put ∈ UW := uw 1146 (by decide +kernel) rfl
theorem g_X2_41 : GoodIn UW (va_wsS RX2 41 yX7_put (wsU yX7_put cX7_put 3 none)) := gS u_1146 u_702 u_43 u_703
theorem dX2_write_9 : decode cX2_write 9 = .ok (.aload_n 0, 1) := by decide +kernel
theorem dX2_write_10 : decode cX2_write 10 = .ok (.getfield 19, 3) := by decide +kernel
theorem u_944 : Cond.fieldLink RX2 19 "MoonlitDoors$Doors" "firstHours" "[I" ∈ UW := uw 944 (by decide +kernel) rfl
theorem dX2_write_13 : decode cX2_write 13 = .ok (.iload_n 1, 1) := by decide +kernel
theorem dX2_write_14 : decode cX2_write 14 = .ok (.iload_n 3, 1) := by decide +kernel
theorem dX2_write_15 : decode cX2_write 15 = .ok (.invokestatic 41, 3) := by decide +kernel
theorem dX2_write_18 : decode cX2_write 18 = .ok (.aload_n 0, 1) := by decide +kernel
theorem dX2_write_19 : decode cX2_write 19 = .ok (.getfield 22, 3) := by decide +kernel
theorem u_945 : Cond.fieldLink RX2 22 "MoonlitDoors$Doors" "lastHours" "[I" ∈ UW := uw 945 (by decide +kernel) rfl
theorem dX2_write_22 : decode cX2_write 22 = .ok (.iload_n 1, 1) := by decide +kernel
theorem dX2_write_23 : decode cX2_write 23 = .ok (.iload 4, 2) := by decide +kernel
theorem dX2_write_25 : decode cX2_write 25 = .ok (.invokestatic 41, 3) := by decide +kernel
theorem dX2_write_28 : decode cX2_write 28 = .ok (.aload_n 0, 1) := by decide +kernel
theorem dX2_write_29 : decode cX2_write 29 = .ok (.getfield 25, 3) := by decide +kernel
theorem u_946 : Cond.fieldLink RX2 25 "MoonlitDoors$Doors" "keys" "[I" ∈ UW := uw 946 (by decide +kernel) rfl
theorem dX2_write_32 : decode cX2_write 32 = .ok (.iload_n 1, 1) := by decide +kernel
theorem dX2_write_33 : decode cX2_write 33 = .ok (.iload 5, 2) := by decide +kernel
theorem dX2_write_35 : decode cX2_write 35 = .ok (.invokestatic 41, 3) := by decide +kernel
theorem dX2_write_38 : decode cX2_write 38 = .ok (.return_, 1) := by decide +kernel
def f_X2_write (d : DoV) (i : Int32) (ph : Int32) (fh : Int32) (lh : Int32) (k : Int32) : DoV := (let u_2 : (Nat → Int32) := (f_X7_put 8 d.2.1 i ph); (let u_4 : (Nat → Int32) := (f_X7_put 8 d.2.2.1 i fh); (let u_6 : (Nat → Int32) := (f_X7_put 8 d.2.2.2.1 i lh); (let u_8 : (Nat → Int32) := (f_X7_put 8 d.2.2.2.2 i k); (d.1, u_2, u_4, u_6, u_8)))))
set_option maxHeartbeats 4000000 in
set_option maxRecDepth 100000 in
theorem c_X2_write (l : Launch) (G : GG) (dh0 : Nat) (dh1 : Nat) (dh2 : Nat) (dh3 : Nat) (dh4 : Nat) (sz : Nat) (d : DoV) (i : Int32) (ph : Int32) (fh : Int32) (lh : Int32) (k : Int32) : wMet l yX2_write cX2_write 6 none 2 0 0 G (fl [wDo G dh0 dh1 dh2 dh3 dh4 d]) [.ref dh0, .int i, .int ph, .int fh, .int lh, .int k] sz (fun u : DoV => none) (fun u : DoV => u = f_X2_write d i ph fh lh k) (fun u : DoV => fl [wDo G dh0 dh1 dh2 dh3 dh4 u]) := by
  refine w_start (by decide +kernel) (Nat.le_of_ble_eq_true rfl) ?_
  intro p e s m below meth c A hx hb hr hml hts hown hlk hin hP hD hA hK hST ls hl
  have hS : va_S A s.heap s.heap [] := va_S.rf
  have hown : s.vm.findClass RX2 = some m.cls := hown
  have hl : lv_has ls 6 [(0, .ref dh0), (1, .int i), (2, .int ph), (3, .int fh), (4, .int lh), (5, .int k)] := hl
  have hF : f_X2_write d i ph fh lh k = (let u_2 : (Nat → Int32) := (f_X7_put 8 d.2.1 i ph); (let u_4 : (Nat → Int32) := (f_X7_put 8 d.2.2.1 i fh); (let u_6 : (Nat → Int32) := (f_X7_put 8 d.2.2.2.1 i lh); (let u_8 : (Nat → Int32) := (f_X7_put 8 d.2.2.2.2 i k); (d.1, u_2, u_4, u_6, u_8))))) := rfl
  refine lv_aload_n hx hb dX2_write_0 rfl (lv_at hl 0 rfl) ?_
  refine va_get (D := G.1) (ci := 6) (v := .ref dh1) (C := RX2) (T := TX2) (N := 5) hx hb hts uws_X2 hown hK hP 0 rfl rfl 1 (by decide) (hts _ u_943) (fun _ h9 => h9) rfl dX2_write_1 ?_
  refine lv_iload_n hx hb dX2_write_4 rfl (lv_at hl 1 rfl) ?_
  refine lv_iload_n hx hb dX2_write_5 rfl (lv_at hl 2 rfl) ?_
  have hP : va_P G.1 vwCl (fl [[(dh0, .inr (6, [.int d.1, .ref dh1, .ref dh2, .ref dh3, .ref dh4]))], [cArr G dh1 8 d.2.1], [cArr G dh2 8 d.2.2.1], [cArr G dh3 8 d.2.2.2.1], [cArr G dh4 8 d.2.2.2.2]]) s.heap := hP
  have hD : va_D A (fl [[(dh0, .inr (6, [.int d.1, .ref dh1, .ref dh2, .ref dh3, .ref dh4]))], [cArr G dh1 8 d.2.1], [cArr G dh2 8 d.2.2.1], [cArr G dh3 8 d.2.2.2.1], [cArr G dh4 8 d.2.2.2.2]]) := hD
  refine w_S (own := RX2) (cs := [[cArr G dh1 8 d.2.1]]) (rs := [[(dh0, .inr (6, [.int d.1, .ref dh1, .ref dh2, .ref dh3, .ref dh4]))], [cArr G dh2 8 d.2.2.1], [cArr G dh3 8 d.2.2.2.1], [cArr G dh4 8 d.2.2.2.2]]) (As := [.ref dh1, .int i, .int ph]) (rest := []) (c_X7_put l G dh1 s.heap.size 8 d.2.1 i ph (by decide)) ⟨hx, hb, hml, hown, hts⟩ g_X2_41 hds_X7_put hK hST hS hP hD hA [1] [0, 2, 3, 4] rfl rfl rfl ⟨Nat.le_of_ble_eq_true rfl, Nat.le_of_ble_eq_true rfl⟩ ⟨Nat.le_of_ble_eq_true rfl, Nat.le_of_ble_eq_true rfl⟩ rfl hl.1 rfl (Nat.le_of_ble_eq_true rfl) dX2_write_6 (fun u_2 H locs huu hP hD hS => ?_)
  have eu_2 := huu
  have hP : va_P G.1 vwCl (fl [[cArr G dh1 8 u_2], [(dh0, .inr (6, [.int d.1, .ref dh1, .ref dh2, .ref dh3, .ref dh4]))], [cArr G dh2 8 d.2.2.1], [cArr G dh3 8 d.2.2.2.1], [cArr G dh4 8 d.2.2.2.2]]) H := hP
  have hD : va_D A (fl [[cArr G dh1 8 u_2], [(dh0, .inr (6, [.int d.1, .ref dh1, .ref dh2, .ref dh3, .ref dh4]))], [cArr G dh2 8 d.2.2.1], [cArr G dh3 8 d.2.2.2.1], [cArr G dh4 8 d.2.2.2.2]]) := hD
  refine W.eq (g2 := F0 m 9 ls []) rfl ?_
  have hF : f_X2_write d i ph fh lh k = (let u_4 : (Nat → Int32) := (f_X7_put 8 d.2.2.1 i fh); (let u_6 : (Nat → Int32) := (f_X7_put 8 d.2.2.2.1 i lh); (let u_8 : (Nat → Int32) := (f_X7_put 8 d.2.2.2.2 i k); (d.1, u_2, u_4, u_6, u_8)))) := by subst eu_2; exact hF
  refine lv_aload_n hx hb dX2_write_9 rfl (lv_at hl 0 rfl) ?_
  refine va_get (D := G.1) (ci := 6) (v := .ref dh2) (C := RX2) (T := TX2) (N := 5) hx hb hts uws_X2 hown hK hP 1 rfl rfl 2 (by decide) (hts _ u_944) (fun _ h9 => h9) rfl dX2_write_10 ?_
  refine lv_iload_n hx hb dX2_write_13 rfl (lv_at hl 1 rfl) ?_
  refine lv_iload_n hx hb dX2_write_14 rfl (lv_at hl 3 rfl) ?_
  refine w_S (own := RX2) (cs := [[cArr G dh2 8 d.2.2.1]]) (rs := [[cArr G dh1 8 u_2], [(dh0, .inr (6, [.int d.1, .ref dh1, .ref dh2, .ref dh3, .ref dh4]))], [cArr G dh3 8 d.2.2.2.1], [cArr G dh4 8 d.2.2.2.2]]) (As := [.ref dh2, .int i, .int fh]) (rest := []) (c_X7_put l G dh2 H.size 8 d.2.2.1 i fh (by decide)) ⟨hx, hb, hml, hown, hts⟩ g_X2_41 hds_X7_put hK hST hS hP hD hA [2] [0, 1, 3, 4] rfl rfl rfl ⟨Nat.le_of_ble_eq_true rfl, Nat.le_of_ble_eq_true rfl⟩ ⟨Nat.le_of_ble_eq_true rfl, Nat.le_of_ble_eq_true rfl⟩ rfl hl.1 rfl (Nat.le_of_ble_eq_true rfl) dX2_write_15 (fun u_4 H locs huu hP hD hS => ?_)
  have eu_4 := huu
  have hP : va_P G.1 vwCl (fl [[cArr G dh2 8 u_4], [cArr G dh1 8 u_2], [(dh0, .inr (6, [.int d.1, .ref dh1, .ref dh2, .ref dh3, .ref dh4]))], [cArr G dh3 8 d.2.2.2.1], [cArr G dh4 8 d.2.2.2.2]]) H := hP
  have hD : va_D A (fl [[cArr G dh2 8 u_4], [cArr G dh1 8 u_2], [(dh0, .inr (6, [.int d.1, .ref dh1, .ref dh2, .ref dh3, .ref dh4]))], [cArr G dh3 8 d.2.2.2.1], [cArr G dh4 8 d.2.2.2.2]]) := hD
  refine W.eq (g2 := F0 m 18 ls []) rfl ?_
  have hF : f_X2_write d i ph fh lh k = (let u_6 : (Nat → Int32) := (f_X7_put 8 d.2.2.2.1 i lh); (let u_8 : (Nat → Int32) := (f_X7_put 8 d.2.2.2.2 i k); (d.1, u_2, u_4, u_6, u_8))) := by subst eu_4; exact hF
  refine lv_aload_n hx hb dX2_write_18 rfl (lv_at hl 0 rfl) ?_
  refine va_get (D := G.1) (ci := 6) (v := .ref dh3) (C := RX2) (T := TX2) (N := 5) hx hb hts uws_X2 hown hK hP 2 rfl rfl 3 (by decide) (hts _ u_945) (fun _ h9 => h9) rfl dX2_write_19 ?_
  refine lv_iload_n hx hb dX2_write_22 rfl (lv_at hl 1 rfl) ?_
  refine lv_iload hx hb dX2_write_23 (lv_at hl 4 rfl) ?_
  refine w_S (own := RX2) (cs := [[cArr G dh3 8 d.2.2.2.1]]) (rs := [[cArr G dh2 8 u_4], [cArr G dh1 8 u_2], [(dh0, .inr (6, [.int d.1, .ref dh1, .ref dh2, .ref dh3, .ref dh4]))], [cArr G dh4 8 d.2.2.2.2]]) (As := [.ref dh3, .int i, .int lh]) (rest := []) (c_X7_put l G dh3 H.size 8 d.2.2.2.1 i lh (by decide)) ⟨hx, hb, hml, hown, hts⟩ g_X2_41 hds_X7_put hK hST hS hP hD hA [3] [0, 1, 2, 4] rfl rfl rfl ⟨Nat.le_of_ble_eq_true rfl, Nat.le_of_ble_eq_true rfl⟩ ⟨Nat.le_of_ble_eq_true rfl, Nat.le_of_ble_eq_true rfl⟩ rfl hl.1 rfl (Nat.le_of_ble_eq_true rfl) dX2_write_25 (fun u_6 H locs huu hP hD hS => ?_)
  have eu_6 := huu
  have hP : va_P G.1 vwCl (fl [[cArr G dh3 8 u_6], [cArr G dh2 8 u_4], [cArr G dh1 8 u_2], [(dh0, .inr (6, [.int d.1, .ref dh1, .ref dh2, .ref dh3, .ref dh4]))], [cArr G dh4 8 d.2.2.2.2]]) H := hP
  have hD : va_D A (fl [[cArr G dh3 8 u_6], [cArr G dh2 8 u_4], [cArr G dh1 8 u_2], [(dh0, .inr (6, [.int d.1, .ref dh1, .ref dh2, .ref dh3, .ref dh4]))], [cArr G dh4 8 d.2.2.2.2]]) := hD
  refine W.eq (g2 := F0 m 28 ls []) rfl ?_
  have hF : f_X2_write d i ph fh lh k = (let u_8 : (Nat → Int32) := (f_X7_put 8 d.2.2.2.2 i k); (d.1, u_2, u_4, u_6, u_8)) := by subst eu_6; exact hF
  refine lv_aload_n hx hb dX2_write_28 rfl (lv_at hl 0 rfl) ?_
  refine va_get (D := G.1) (ci := 6) (v := .ref dh4) (C := RX2) (T := TX2) (N := 5) hx hb hts uws_X2 hown hK hP 3 rfl rfl 4 (by decide) (hts _ u_946) (fun _ h9 => h9) rfl dX2_write_29 ?_
  refine lv_iload_n hx hb dX2_write_32 rfl (lv_at hl 1 rfl) ?_
  refine lv_iload hx hb dX2_write_33 (lv_at hl 5 rfl) ?_
  refine w_S (own := RX2) (cs := [[cArr G dh4 8 d.2.2.2.2]]) (rs := [[cArr G dh3 8 u_6], [cArr G dh2 8 u_4], [cArr G dh1 8 u_2], [(dh0, .inr (6, [.int d.1, .ref dh1, .ref dh2, .ref dh3, .ref dh4]))]]) (As := [.ref dh4, .int i, .int k]) (rest := []) (c_X7_put l G dh4 H.size 8 d.2.2.2.2 i k (by decide)) ⟨hx, hb, hml, hown, hts⟩ g_X2_41 hds_X7_put hK hST hS hP hD hA [4] [0, 1, 2, 3] rfl rfl rfl ⟨Nat.le_of_ble_eq_true rfl, Nat.le_of_ble_eq_true rfl⟩ ⟨Nat.le_of_ble_eq_true rfl, Nat.le_of_ble_eq_true rfl⟩ rfl hl.1 rfl (Nat.le_of_ble_eq_true rfl) dX2_write_35 (fun u_8 H locs huu hP hD hS => ?_)
  have eu_8 := huu
  have hP : va_P G.1 vwCl (fl [[cArr G dh4 8 u_8], [cArr G dh3 8 u_6], [cArr G dh2 8 u_4], [cArr G dh1 8 u_2], [(dh0, .inr (6, [.int d.1, .ref dh1, .ref dh2, .ref dh3, .ref dh4]))]]) H := hP
  have hD : va_D A (fl [[cArr G dh4 8 u_8], [cArr G dh3 8 u_6], [cArr G dh2 8 u_4], [cArr G dh1 8 u_2], [(dh0, .inr (6, [.int d.1, .ref dh1, .ref dh2, .ref dh3, .ref dh4]))]]) := hD
  refine W.eq (g2 := F0 m 38 ls []) rfl ?_
  have hF : f_X2_write d i ph fh lh k = (d.1, u_2, u_4, u_6, u_8) := by subst eu_8; exact hF
  have hP := fl_sub (cs := [[(dh0, .inr (6, [.int d.1, .ref dh1, .ref dh2, .ref dh3, .ref dh4]))], [cArr G dh1 8 u_2], [cArr G dh2 8 u_4], [cArr G dh3 8 u_6], [cArr G dh4 8 u_8]]) [4, 3, 2, 1, 0] rfl hP
  have hD := fl_subD (cs := [[(dh0, .inr (6, [.int d.1, .ref dh1, .ref dh2, .ref dh3, .ref dh4]))], [cArr G dh1 8 u_2], [cArr G dh2 8 u_4], [cArr G dh3 8 u_6], [cArr G dh4 8 u_8]]) [4, 3, 2, 1, 0] rfl rfl hD
  exact w_retV (u := (d.1, u_2, u_4, u_6, u_8)) hx hb hr hlk hS rfl hF.symm hP hD (Nat.le_of_ble_eq_true rfl) (Nat.le_of_ble_eq_true rfl) dX2_write_38
theorem dX2_append_0 : decode cX2_append 0 = .ok (.aload_n 0, 1) := by decide +kernel
theorem dX2_append_1 : decode cX2_append 1 = .ok (.getfield 9, 3) := by decide +kernel
theorem dX2_append_4 : decode cX2_append 4 = .ok (.istore 5, 2) := by decide +kernel
theorem dX2_append_6 : decode cX2_append 6 = .ok (.aload_n 0, 1) := by decide +kernel
theorem dX2_append_7 : decode cX2_append 7 = .ok (.iload 5, 2) := by decide +kernel
theorem dX2_append_9 : decode cX2_append 9 = .ok (.iload_n 1, 1) := by decide +kernel
theorem dX2_append_10 : decode cX2_append 10 = .ok (.iload_n 2, 1) := by decide +kernel
theorem dX2_append_11 : decode cX2_append 11 = .ok (.iload_n 3, 1) := by decide +kernel
theorem dX2_append_12 : decode cX2_append 12 = .ok (.iload 4, 2) := by decide +kernel
theorem dX2_append_14 : decode cX2_append 14 = .ok (.invokevirtual 37, 3) := by decide +kernel
theorem u_1142 : Cond.methodLink RX2 37 yX2_write ∈ UW := uw 1142 (by decide +kernel) rfl
theorem u_1143 : Cond.instanceMethod yX2_write ∈ UW := uw 1143 (by decide +kernel) rfl
theorem u_1144 : Cond.selects RX2 yX2_write yX2_write ∈ UW := uw 1144 (by decide +kernel) rfl
theorem u_23 : Cond.initialized RX2 ∈ UW := uw 23 (by decide +kernel) rfl
theorem u_1145 : Cond.code yX2_write cX2_write 6 none ∈ UW := uw 1145 (by decide +kernel) rfl
theorem g_X2_37 : GoodIn UW (wsV RX2 37 RX2 yX2_write (wsU yX2_write cX2_write 6 none)) := gV u_1142 u_1143 u_1144 u_23 u_1145
theorem hdv_X2_write : yX2_write.cls = RX2 ∧ yX2_write.cls ≠ "java/lang/invoke/MethodHandle" ∧ yX2_write.cls ≠ "java/lang/invoke/VarHandle" ∧ (parseMethodDescriptor yX2_write.desc).map (fun d => d.parameters.length) = some 5 := by decide +kernel
theorem dX2_append_17 : decode cX2_append 17 = .ok (.aload_n 0, 1) := by decide +kernel
theorem dX2_append_18 : decode cX2_append 18 = .ok (.dup, 1) := by decide +kernel
theorem dX2_append_19 : decode cX2_append 19 = .ok (.getfield 9, 3) := by decide +kernel
theorem dX2_append_22 : decode cX2_append 22 = .ok (.iconst 1, 1) := by decide +kernel
theorem dX2_append_23 : decode cX2_append 23 = .ok (.iadd, 1) := by decide +kernel
theorem dX2_append_24 : decode cX2_append 24 = .ok (.putfield 9, 3) := by decide +kernel
theorem dX2_append_27 : decode cX2_append 27 = .ok (.iload 5, 2) := by decide +kernel
theorem dX2_append_29 : decode cX2_append 29 = .ok (.ireturn, 1) := by decide +kernel
def f_X2_append (d : DoV) (ph : Int32) (fh : Int32) (lh : Int32) (k : Int32) : Int32 × DoV := (let u_2 : DoV := (f_X2_write d d.1 ph fh lh k); (d.1, ((u_2.1 + (1 : Int32)), u_2.2.1, u_2.2.2.1, u_2.2.2.2.1, u_2.2.2.2.2)))
set_option maxHeartbeats 4000000 in
set_option maxRecDepth 100000 in
theorem c_X2_append (l : Launch) (G : GG) (dh0 : Nat) (dh1 : Nat) (dh2 : Nat) (dh3 : Nat) (dh4 : Nat) (sz : Nat) (d : DoV) (ph : Int32) (fh : Int32) (lh : Int32) (k : Int32) : wMet l yX2_append cX2_append 6 (some .int) 3 0 0 G (fl [wDo G dh0 dh1 dh2 dh3 dh4 d]) [.ref dh0, .int ph, .int fh, .int lh, .int k] sz (fun u : Int32 × DoV => some (.int u.1)) (fun u : Int32 × DoV => u = f_X2_append d ph fh lh k) (fun u : Int32 × DoV => fl [wDo G dh0 dh1 dh2 dh3 dh4 u.2]) := by
  refine w_start (by decide +kernel) (Nat.le_of_ble_eq_true rfl) ?_
  intro p e s m below meth c A hx hb hr hml hts hown hlk hin hP hD hA hK hST ls hl
  have hS : va_S A s.heap s.heap [] := va_S.rf
  have hown : s.vm.findClass RX2 = some m.cls := hown
  have hl : lv_has ls 6 [(0, .ref dh0), (1, .int ph), (2, .int fh), (3, .int lh), (4, .int k)] := hl
  have hF : f_X2_append d ph fh lh k = (let u_2 : DoV := (f_X2_write d d.1 ph fh lh k); (d.1, ((u_2.1 + (1 : Int32)), u_2.2.1, u_2.2.2.1, u_2.2.2.2.1, u_2.2.2.2.2))) := rfl
  refine lv_aload_n hx hb dX2_append_0 rfl (lv_at hl 0 rfl) ?_
  refine va_get (D := G.1) (ci := 6) (v := .int d.1) (C := RX2) (T := TX2) (N := 5) hx hb hts uws_X2 hown hK hP 0 rfl rfl 0 (by decide) (hts _ u_940) (fun _ h9 => h9) rfl dX2_append_1 ?_
  refine lv_istore (lv' := [(5, .int d.1), (0, .ref dh0), (1, .int ph), (2, .int fh), (3, .int lh), (4, .int k)]) hx hb dX2_append_4 hl (by decide) rfl (fun ls hl => ?_)
  refine lv_aload_n hx hb dX2_append_6 rfl (lv_at hl 1 rfl) ?_
  refine lv_iload hx hb dX2_append_7 (lv_at hl 0 rfl) ?_
  refine lv_iload_n hx hb dX2_append_9 rfl (lv_at hl 2 rfl) ?_
  refine lv_iload_n hx hb dX2_append_10 rfl (lv_at hl 3 rfl) ?_
  refine lv_iload_n hx hb dX2_append_11 rfl (lv_at hl 4 rfl) ?_
  refine lv_iload hx hb dX2_append_12 (lv_at hl 5 rfl) ?_
  refine w_V (own := RX2) (cs := [wDo G dh0 dh1 dh2 dh3 dh4 d]) (rs := []) (As := [.int d.1, .int ph, .int fh, .int lh, .int k]) (rest := []) (c_X2_write l G dh0 dh1 dh2 dh3 dh4 s.heap.size d d.1 ph fh lh k) ⟨hx, hb, hml, hown, hts⟩ g_X2_37 hdv_X2_write hK hST hS hP hD hA [0] [] rfl rfl rfl (k0 := 0) rfl rfl rfl ⟨Nat.le_of_ble_eq_true rfl, Nat.le_of_ble_eq_true rfl⟩ ⟨Nat.le_of_ble_eq_true rfl, Nat.le_of_ble_eq_true rfl⟩ rfl hl.1 rfl (Nat.le_of_ble_eq_true rfl) dX2_append_14 (fun u_2 H locs huu hP hD hS => ?_)
  have eu_2 := huu
  have hP : va_P G.1 vwCl (fl [wDo G dh0 dh1 dh2 dh3 dh4 u_2]) H := hP
  have hD : va_D A (fl [wDo G dh0 dh1 dh2 dh3 dh4 u_2]) := hD
  refine W.eq (g2 := F0 m 17 ls []) rfl ?_
  have hF : f_X2_append d ph fh lh k = (d.1, ((u_2.1 + (1 : Int32)), u_2.2.1, u_2.2.2.1, u_2.2.2.2.1, u_2.2.2.2.2)) := by subst eu_2; exact hF
  refine lv_aload_n hx hb dX2_append_17 rfl (lv_at hl 1 rfl) ?_
  refine lv_dup hx hb dX2_append_18 rfl ?_
  refine va_get (D := G.1) (ci := 6) (v := .int u_2.1) (C := RX2) (T := TX2) (N := 5) hx hb hts uws_X2 hown hK hP 0 rfl rfl 0 (by decide) (hts _ u_940) (fun _ h9 => h9) rfl dX2_append_19 ?_
  refine lv_iconst (v := (1 : Int32)) hx hb dX2_append_22 (by decide) ?_
  refine lv_iadd hx hb dX2_append_23 ?_
  refine va_put (D := G.1) (ci := 6) (v := .int (u_2.1 + (1 : Int32))) (ty := .int) (C := RX2) (T := TX2) (N := 5) hx hb hts uws_X2 tyX2 tyX2_ok nmX2 hown hK hP hD hS 0 rfl rfl 0 (by decide) (hts _ u_940) (fun _ h9 => h9) rfl (by decide +kernel) rfl rfl (Nat.le_of_ble_eq_true rfl) dX2_append_24 (fun H locs hP hD hS => ?_)
  have hP : va_P G.1 vwCl (fl [wDo G dh0 dh1 dh2 dh3 dh4 ((u_2.1 + (1 : Int32)), u_2.2.1, u_2.2.2.1, u_2.2.2.2.1, u_2.2.2.2.2)]) H := hP
  have hD : va_D A (fl [wDo G dh0 dh1 dh2 dh3 dh4 ((u_2.1 + (1 : Int32)), u_2.2.1, u_2.2.2.1, u_2.2.2.2.1, u_2.2.2.2.2)]) := hD
  refine lv_iload hx hb dX2_append_27 (lv_at hl 0 rfl) ?_
  exact w_ret (u := (d.1, ((u_2.1 + (1 : Int32)), u_2.2.1, u_2.2.2.1, u_2.2.2.2.1, u_2.2.2.2.2))) hx hb hr hlk rfl hS rfl hF.symm hP hD (Nat.le_of_ble_eq_true rfl) (Nat.le_of_ble_eq_true rfl) dX2_append_29
theorem dX2_phaseSetFor_0 : decode cX2_phaseSetFor 0 = .ok (.aload_n 0, 1) := by decide +kernel
theorem dX2_phaseSetFor_1 : decode cX2_phaseSetFor 1 = .ok (.getfield 15, 3) := by decide +kernel
theorem dX2_phaseSetFor_4 : decode cX2_phaseSetFor 4 = .ok (.iload_n 1, 1) := by decide +kernel
theorem dX2_phaseSetFor_5 : decode cX2_phaseSetFor 5 = .ok (.invokestatic 47, 3) := by decide +kernel
theorem u_504 : Cond.methodLink RX2 47 yX7_at ∈ UW := uw 504 (by decide +kernel) rfl
theorem g_X2_47 : GoodIn UW (va_wsS RX2 47 yX7_at (wsU yX7_at cX7_at 2 (some .int))) := gS u_504 u_505 u_43 u_506
theorem dX2_phaseSetFor_8 : decode cX2_phaseSetFor 8 = .ok (.ireturn, 1) := by decide +kernel
def f_X2_phaseSetFor (d : DoV) (i : Int32) : Int32 := (f_X7_at 8 d.2.1 i)
set_option maxHeartbeats 4000000 in
set_option maxRecDepth 100000 in
theorem c_X2_phaseSetFor (l : Launch) (G : GG) (dh0 : Nat) (dh1 : Nat) (dh2 : Nat) (dh3 : Nat) (dh4 : Nat) (d : DoV) (i : Int32) : rMet l yX2_phaseSetFor cX2_phaseSetFor 2 (some .int) 2 G (fl [wDo G dh0 dh1 dh2 dh3 dh4 d]) [.ref dh0, .int i] (some (.int (f_X2_phaseSetFor d i))) (True) := by
  refine r_start (by decide +kernel) (Nat.le_of_ble_eq_true rfl) ?_
  intro p e s m below meth c hx hb hr hml hts hown hlk hP hK hST ls hl
  have hS : va_S (fun _ => False) s.heap s.heap [] := va_S.rf
  have hown : s.vm.findClass RX2 = some m.cls := hown
  have hl : lv_has ls 2 [(0, .ref dh0), (1, .int i)] := hl
  have hF : f_X2_phaseSetFor d i = (f_X7_at 8 d.2.1 i) := rfl
  refine lv_aload_n hx hb dX2_phaseSetFor_0 rfl (lv_at hl 0 rfl) ?_
  refine va_get (D := G.1) (ci := 6) (v := .ref dh1) (C := RX2) (T := TX2) (N := 5) hx hb hts uws_X2 hown hK hP 0 rfl rfl 1 (by decide) (hts _ u_943) (fun _ h9 => h9) rfl dX2_phaseSetFor_1 ?_
  refine lv_iload_n hx hb dX2_phaseSetFor_4 rfl (lv_at hl 1 rfl) ?_
  refine r_S (own := RX2) (v := (some (.int (f_X7_at 8 d.2.1 i)))) (st1 := [.int (f_X7_at 8 d.2.1 i)]) (As := [.ref dh1, .int i]) (rest := []) (c_X7_at l G dh1 8 d.2.1 i (by decide)) ⟨hx, hb, hml, hown, hts⟩ g_X2_47 hds_X7_at hK hST hS hP [1] rfl ⟨Nat.le_of_ble_eq_true rfl, Nat.le_of_ble_eq_true rfl⟩ ⟨Nat.le_of_ble_eq_true rfl, Nat.le_of_ble_eq_true rfl⟩ rfl hl.1 rfl (Nat.le_of_ble_eq_true rfl) dX2_phaseSetFor_5 rfl (fun b_1 => ?_)
  exact r_ret hx hb hr hlk rfl (by rw [hF]) trivial dX2_phaseSetFor_8
theorem dX2_keyFor_0 : decode cX2_keyFor 0 = .ok (.aload_n 0, 1) := by decide +kernel
theorem dX2_keyFor_1 : decode cX2_keyFor 1 = .ok (.getfield 25, 3) := by decide +kernel
theorem dX2_keyFor_4 : decode cX2_keyFor 4 = .ok (.iload_n 1, 1) := by decide +kernel
theorem dX2_keyFor_5 : decode cX2_keyFor 5 = .ok (.invokestatic 47, 3) := by decide +kernel
theorem dX2_keyFor_8 : decode cX2_keyFor 8 = .ok (.ireturn, 1) := by decide +kernel
def f_X2_keyFor (d : DoV) (i : Int32) : Int32 := (f_X7_at 8 d.2.2.2.2 i)
set_option maxHeartbeats 4000000 in
set_option maxRecDepth 100000 in
theorem c_X2_keyFor (l : Launch) (G : GG) (dh0 : Nat) (dh1 : Nat) (dh2 : Nat) (dh3 : Nat) (dh4 : Nat) (d : DoV) (i : Int32) : rMet l yX2_keyFor cX2_keyFor 2 (some .int) 2 G (fl [wDo G dh0 dh1 dh2 dh3 dh4 d]) [.ref dh0, .int i] (some (.int (f_X2_keyFor d i))) (True) := by
  refine r_start (by decide +kernel) (Nat.le_of_ble_eq_true rfl) ?_
  intro p e s m below meth c hx hb hr hml hts hown hlk hP hK hST ls hl
  have hS : va_S (fun _ => False) s.heap s.heap [] := va_S.rf
  have hown : s.vm.findClass RX2 = some m.cls := hown
  have hl : lv_has ls 2 [(0, .ref dh0), (1, .int i)] := hl
  have hF : f_X2_keyFor d i = (f_X7_at 8 d.2.2.2.2 i) := rfl
  refine lv_aload_n hx hb dX2_keyFor_0 rfl (lv_at hl 0 rfl) ?_
  refine va_get (D := G.1) (ci := 6) (v := .ref dh4) (C := RX2) (T := TX2) (N := 5) hx hb hts uws_X2 hown hK hP 0 rfl rfl 4 (by decide) (hts _ u_946) (fun _ h9 => h9) rfl dX2_keyFor_1 ?_
  refine lv_iload_n hx hb dX2_keyFor_4 rfl (lv_at hl 1 rfl) ?_
  refine r_S (own := RX2) (v := (some (.int (f_X7_at 8 d.2.2.2.2 i)))) (st1 := [.int (f_X7_at 8 d.2.2.2.2 i)]) (As := [.ref dh4, .int i]) (rest := []) (c_X7_at l G dh4 8 d.2.2.2.2 i (by decide)) ⟨hx, hb, hml, hown, hts⟩ g_X2_47 hds_X7_at hK hST hS hP [4] rfl ⟨Nat.le_of_ble_eq_true rfl, Nat.le_of_ble_eq_true rfl⟩ ⟨Nat.le_of_ble_eq_true rfl, Nat.le_of_ble_eq_true rfl⟩ rfl hl.1 rfl (Nat.le_of_ble_eq_true rfl) dX2_keyFor_5 rfl (fun b_1 => ?_)
  exact r_ret hx hb hr hlk rfl (by rw [hF]) trivial dX2_keyFor_8
theorem dX2_containsPhase_0 : decode cX2_containsPhase 0 = .ok (.aload_n 0, 1) := by decide +kernel
theorem dX2_containsPhase_1 : decode cX2_containsPhase 1 = .ok (.getfield 15, 3) := by decide +kernel
theorem dX2_containsPhase_4 : decode cX2_containsPhase 4 = .ok (.iload_n 1, 1) := by decide +kernel
theorem dX2_containsPhase_5 : decode cX2_containsPhase 5 = .ok (.invokestatic 47, 3) := by decide +kernel
theorem dX2_containsPhase_8 : decode cX2_containsPhase 8 = .ok (.iload_n 2, 1) := by decide +kernel
theorem dX2_containsPhase_9 : decode cX2_containsPhase 9 = .ok (.ishr, 1) := by decide +kernel
theorem dX2_containsPhase_10 : decode cX2_containsPhase 10 = .ok (.iconst 1, 1) := by decide +kernel
theorem dX2_containsPhase_11 : decode cX2_containsPhase 11 = .ok (.iand, 1) := by decide +kernel
theorem dX2_containsPhase_12 : decode cX2_containsPhase 12 = .ok (.iconst 1, 1) := by decide +kernel
theorem dX2_containsPhase_13 : decode cX2_containsPhase 13 = .ok (.if_icmp .ne 7, 3) := by decide +kernel
theorem dX2_containsPhase_20 : decode cX2_containsPhase 20 = .ok (.iconst 0, 1) := by decide +kernel
theorem dX2_containsPhase_21 : decode cX2_containsPhase 21 = .ok (.ireturn, 1) := by decide +kernel
theorem dX2_containsPhase_16 : decode cX2_containsPhase 16 = .ok (.iconst 1, 1) := by decide +kernel
theorem dX2_containsPhase_17 : decode cX2_containsPhase 17 = .ok (.goto 4, 3) := by decide +kernel
def f_X2_containsPhase (d : DoV) (i : Int32) (ph : Int32) : Int32 := (if (((f_X7_at 8 d.2.1 i) >>> (ph &&& 31)) &&& (1 : Int32)) = (1 : Int32) then (1 : Int32) else (0 : Int32))
set_option maxHeartbeats 4000000 in
set_option maxRecDepth 100000 in
theorem c_X2_containsPhase (l : Launch) (G : GG) (dh0 : Nat) (dh1 : Nat) (dh2 : Nat) (dh3 : Nat) (dh4 : Nat) (d : DoV) (i : Int32) (ph : Int32) : rMet l yX2_containsPhase cX2_containsPhase 3 (some .boolean) 2 G (fl [wDo G dh0 dh1 dh2 dh3 dh4 d]) [.ref dh0, .int i, .int ph] (some (.int (f_X2_containsPhase d i ph))) (narrow .boolean (.int (f_X2_containsPhase d i ph)) = .int (f_X2_containsPhase d i ph)) := by
  refine r_start (by decide +kernel) (Nat.le_of_ble_eq_true rfl) ?_
  intro p e s m below meth c hx hb hr hml hts hown hlk hP hK hST ls hl
  have hS : va_S (fun _ => False) s.heap s.heap [] := va_S.rf
  have hown : s.vm.findClass RX2 = some m.cls := hown
  have hl : lv_has ls 3 [(0, .ref dh0), (1, .int i), (2, .int ph)] := hl
  have hF : f_X2_containsPhase d i ph = (if (((f_X7_at 8 d.2.1 i) >>> (ph &&& 31)) &&& (1 : Int32)) = (1 : Int32) then (1 : Int32) else (0 : Int32)) := rfl
  refine lv_aload_n hx hb dX2_containsPhase_0 rfl (lv_at hl 0 rfl) ?_
  refine va_get (D := G.1) (ci := 6) (v := .ref dh1) (C := RX2) (T := TX2) (N := 5) hx hb hts uws_X2 hown hK hP 0 rfl rfl 1 (by decide) (hts _ u_943) (fun _ h9 => h9) rfl dX2_containsPhase_1 ?_
  refine lv_iload_n hx hb dX2_containsPhase_4 rfl (lv_at hl 1 rfl) ?_
  refine r_S (own := RX2) (v := (some (.int (f_X7_at 8 d.2.1 i)))) (st1 := [.int (f_X7_at 8 d.2.1 i)]) (As := [.ref dh1, .int i]) (rest := []) (c_X7_at l G dh1 8 d.2.1 i (by decide)) ⟨hx, hb, hml, hown, hts⟩ g_X2_47 hds_X7_at hK hST hS hP [1] rfl ⟨Nat.le_of_ble_eq_true rfl, Nat.le_of_ble_eq_true rfl⟩ ⟨Nat.le_of_ble_eq_true rfl, Nat.le_of_ble_eq_true rfl⟩ rfl hl.1 rfl (Nat.le_of_ble_eq_true rfl) dX2_containsPhase_5 rfl (fun b_1 => ?_)
  refine lv_iload_n hx hb dX2_containsPhase_8 rfl (lv_at hl 2 rfl) ?_
  refine lv_ishr hx hb dX2_containsPhase_9 ?_
  refine lv_iconst (v := (1 : Int32)) hx hb dX2_containsPhase_10 (by decide) ?_
  refine lv_iand hx hb dX2_containsPhase_11 ?_
  refine lv_iconst (v := (1 : Int32)) hx hb dX2_containsPhase_12 (by decide) ?_
  refine lv_icmp_ne (tgt := 20) hx hb dX2_containsPhase_13 (by decide) (fun c_2 => ?_) (fun c_2 => ?_)
  · have hF := hF.trans (if_neg c_2)
    refine lv_iconst (v := (0 : Int32)) hx hb dX2_containsPhase_20 (by decide) ?_
    exact r_ret hx hb hr hlk rfl (by rw [hF]) (by rw [hF]; exact (rfl : narrow .boolean (.int (0 : Int32)) = .int (0 : Int32))) dX2_containsPhase_21
  · have hF := hF.trans (if_pos c_2)
    refine lv_iconst (v := (1 : Int32)) hx hb dX2_containsPhase_16 (by decide) ?_
    refine lv_goto (tgt := 21) hx hb dX2_containsPhase_17 (by decide) ?_
    exact r_ret hx hb hr hlk rfl (by rw [hF]) (by rw [hF]; exact (rfl : narrow .boolean (.int (1 : Int32)) = .int (1 : Int32))) dX2_containsPhase_21
theorem dX2_containsHour_0 : decode cX2_containsHour 0 = .ok (.aload_n 0, 1) := by decide +kernel
theorem dX2_containsHour_1 : decode cX2_containsHour 1 = .ok (.getfield 19, 3) := by decide +kernel
theorem dX2_containsHour_4 : decode cX2_containsHour 4 = .ok (.iload_n 1, 1) := by decide +kernel
theorem dX2_containsHour_5 : decode cX2_containsHour 5 = .ok (.invokestatic 47, 3) := by decide +kernel
theorem dX2_containsHour_8 : decode cX2_containsHour 8 = .ok (.istore_n 3, 1) := by decide +kernel
theorem dX2_containsHour_9 : decode cX2_containsHour 9 = .ok (.aload_n 0, 1) := by decide +kernel
theorem dX2_containsHour_10 : decode cX2_containsHour 10 = .ok (.getfield 22, 3) := by decide +kernel
theorem dX2_containsHour_13 : decode cX2_containsHour 13 = .ok (.iload_n 1, 1) := by decide +kernel
theorem dX2_containsHour_14 : decode cX2_containsHour 14 = .ok (.invokestatic 47, 3) := by decide +kernel
theorem dX2_containsHour_17 : decode cX2_containsHour 17 = .ok (.istore 4, 2) := by decide +kernel
theorem dX2_containsHour_19 : decode cX2_containsHour 19 = .ok (.iload_n 3, 1) := by decide +kernel
theorem dX2_containsHour_20 : decode cX2_containsHour 20 = .ok (.iload 4, 2) := by decide +kernel
theorem dX2_containsHour_22 : decode cX2_containsHour 22 = .ok (.if_icmp .gt 20, 3) := by decide +kernel
theorem dX2_containsHour_42 : decode cX2_containsHour 42 = .ok (.iload_n 2, 1) := by decide +kernel
theorem dX2_containsHour_43 : decode cX2_containsHour 43 = .ok (.iload_n 3, 1) := by decide +kernel
theorem dX2_containsHour_44 : decode cX2_containsHour 44 = .ok (.if_icmp .ge 9, 3) := by decide +kernel
theorem dX2_containsHour_53 : decode cX2_containsHour 53 = .ok (.iconst 1, 1) := by decide +kernel
theorem dX2_containsHour_54 : decode cX2_containsHour 54 = .ok (.goto 4, 3) := by decide +kernel
theorem dX2_containsHour_58 : decode cX2_containsHour 58 = .ok (.ireturn, 1) := by decide +kernel
theorem dX2_containsHour_47 : decode cX2_containsHour 47 = .ok (.iload_n 2, 1) := by decide +kernel
theorem dX2_containsHour_48 : decode cX2_containsHour 48 = .ok (.iload 4, 2) := by decide +kernel
theorem dX2_containsHour_50 : decode cX2_containsHour 50 = .ok (.if_icmp .gt 7, 3) := by decide +kernel
theorem dX2_containsHour_57 : decode cX2_containsHour 57 = .ok (.iconst 0, 1) := by decide +kernel
theorem dX2_containsHour_25 : decode cX2_containsHour 25 = .ok (.iload_n 3, 1) := by decide +kernel
theorem dX2_containsHour_26 : decode cX2_containsHour 26 = .ok (.iload_n 2, 1) := by decide +kernel
theorem dX2_containsHour_27 : decode cX2_containsHour 27 = .ok (.if_icmp .gt 13, 3) := by decide +kernel
theorem dX2_containsHour_40 : decode cX2_containsHour 40 = .ok (.iconst 0, 1) := by decide +kernel
theorem dX2_containsHour_41 : decode cX2_containsHour 41 = .ok (.ireturn, 1) := by decide +kernel
theorem dX2_containsHour_30 : decode cX2_containsHour 30 = .ok (.iload_n 2, 1) := by decide +kernel
theorem dX2_containsHour_31 : decode cX2_containsHour 31 = .ok (.iload 4, 2) := by decide +kernel
theorem dX2_containsHour_33 : decode cX2_containsHour 33 = .ok (.if_icmp .gt 7, 3) := by decide +kernel
theorem dX2_containsHour_36 : decode cX2_containsHour 36 = .ok (.iconst 1, 1) := by decide +kernel
theorem dX2_containsHour_37 : decode cX2_containsHour 37 = .ok (.goto 4, 3) := by decide +kernel
def f_X2_containsHour (d : DoV) (i : Int32) (h : Int32) : Int32 := (if (f_X7_at 8 d.2.2.2.1 i) < (f_X7_at 8 d.2.2.1 i) then (if (f_X7_at 8 d.2.2.1 i) ≤ h then (1 : Int32) else (if (f_X7_at 8 d.2.2.2.1 i) < h then (0 : Int32) else (1 : Int32))) else (if h < (f_X7_at 8 d.2.2.1 i) then (0 : Int32) else (if (f_X7_at 8 d.2.2.2.1 i) < h then (0 : Int32) else (1 : Int32))))
set_option maxHeartbeats 4000000 in
set_option maxRecDepth 100000 in
theorem c_X2_containsHour (l : Launch) (G : GG) (dh0 : Nat) (dh1 : Nat) (dh2 : Nat) (dh3 : Nat) (dh4 : Nat) (d : DoV) (i : Int32) (h : Int32) : rMet l yX2_containsHour cX2_containsHour 5 (some .boolean) 2 G (fl [wDo G dh0 dh1 dh2 dh3 dh4 d]) [.ref dh0, .int i, .int h] (some (.int (f_X2_containsHour d i h))) (narrow .boolean (.int (f_X2_containsHour d i h)) = .int (f_X2_containsHour d i h)) := by
  refine r_start (by decide +kernel) (Nat.le_of_ble_eq_true rfl) ?_
  intro p e s m below meth c hx hb hr hml hts hown hlk hP hK hST ls hl
  have hS : va_S (fun _ => False) s.heap s.heap [] := va_S.rf
  have hown : s.vm.findClass RX2 = some m.cls := hown
  have hl : lv_has ls 5 [(0, .ref dh0), (1, .int i), (2, .int h)] := hl
  have hF : f_X2_containsHour d i h = (if (f_X7_at 8 d.2.2.2.1 i) < (f_X7_at 8 d.2.2.1 i) then (if (f_X7_at 8 d.2.2.1 i) ≤ h then (1 : Int32) else (if (f_X7_at 8 d.2.2.2.1 i) < h then (0 : Int32) else (1 : Int32))) else (if h < (f_X7_at 8 d.2.2.1 i) then (0 : Int32) else (if (f_X7_at 8 d.2.2.2.1 i) < h then (0 : Int32) else (1 : Int32)))) := rfl
  refine lv_aload_n hx hb dX2_containsHour_0 rfl (lv_at hl 0 rfl) ?_
  refine va_get (D := G.1) (ci := 6) (v := .ref dh2) (C := RX2) (T := TX2) (N := 5) hx hb hts uws_X2 hown hK hP 0 rfl rfl 2 (by decide) (hts _ u_944) (fun _ h9 => h9) rfl dX2_containsHour_1 ?_
  refine lv_iload_n hx hb dX2_containsHour_4 rfl (lv_at hl 1 rfl) ?_
  refine r_S (own := RX2) (v := (some (.int (f_X7_at 8 d.2.2.1 i)))) (st1 := [.int (f_X7_at 8 d.2.2.1 i)]) (As := [.ref dh2, .int i]) (rest := []) (c_X7_at l G dh2 8 d.2.2.1 i (by decide)) ⟨hx, hb, hml, hown, hts⟩ g_X2_47 hds_X7_at hK hST hS hP [2] rfl ⟨Nat.le_of_ble_eq_true rfl, Nat.le_of_ble_eq_true rfl⟩ ⟨Nat.le_of_ble_eq_true rfl, Nat.le_of_ble_eq_true rfl⟩ rfl hl.1 rfl (Nat.le_of_ble_eq_true rfl) dX2_containsHour_5 rfl (fun b_1 => ?_)
  refine lv_istore_n (lv' := [(3, .int (f_X7_at 8 d.2.2.1 i)), (0, .ref dh0), (1, .int i), (2, .int h)]) hx hb dX2_containsHour_8 rfl hl (by decide) rfl (fun ls hl => ?_)
  refine lv_aload_n hx hb dX2_containsHour_9 rfl (lv_at hl 1 rfl) ?_
  refine va_get (D := G.1) (ci := 6) (v := .ref dh3) (C := RX2) (T := TX2) (N := 5) hx hb hts uws_X2 hown hK hP 0 rfl rfl 3 (by decide) (hts _ u_945) (fun _ h9 => h9) rfl dX2_containsHour_10 ?_
  refine lv_iload_n hx hb dX2_containsHour_13 rfl (lv_at hl 2 rfl) ?_
  refine r_S (own := RX2) (v := (some (.int (f_X7_at 8 d.2.2.2.1 i)))) (st1 := [.int (f_X7_at 8 d.2.2.2.1 i)]) (As := [.ref dh3, .int i]) (rest := []) (c_X7_at l G dh3 8 d.2.2.2.1 i (by decide)) ⟨hx, hb, hml, hown, hts⟩ g_X2_47 hds_X7_at hK hST hS hP [3] rfl ⟨Nat.le_of_ble_eq_true rfl, Nat.le_of_ble_eq_true rfl⟩ ⟨Nat.le_of_ble_eq_true rfl, Nat.le_of_ble_eq_true rfl⟩ rfl hl.1 rfl (Nat.le_of_ble_eq_true rfl) dX2_containsHour_14 rfl (fun b_2 => ?_)
  refine lv_istore (lv' := [(4, .int (f_X7_at 8 d.2.2.2.1 i)), (3, .int (f_X7_at 8 d.2.2.1 i)), (0, .ref dh0), (1, .int i), (2, .int h)]) hx hb dX2_containsHour_17 hl (by decide) rfl (fun ls hl => ?_)
  refine lv_iload_n hx hb dX2_containsHour_19 rfl (lv_at hl 1 rfl) ?_
  refine lv_iload hx hb dX2_containsHour_20 (lv_at hl 0 rfl) ?_
  refine lv_icmp_gt (tgt := 42) hx hb dX2_containsHour_22 (by decide) (fun c_3 => ?_) (fun c_3 => ?_)
  · have hF := hF.trans (if_pos c_3)
    refine lv_iload_n hx hb dX2_containsHour_42 rfl (lv_at hl 4 rfl) ?_
    refine lv_iload_n hx hb dX2_containsHour_43 rfl (lv_at hl 1 rfl) ?_
    refine lv_icmp_ge (tgt := 53) hx hb dX2_containsHour_44 (by decide) (fun c_4 => ?_) (fun c_4 => ?_)
    · have hF := hF.trans (if_pos c_4)
      refine lv_iconst (v := (1 : Int32)) hx hb dX2_containsHour_53 (by decide) ?_
      refine lv_goto (tgt := 58) hx hb dX2_containsHour_54 (by decide) ?_
      exact r_ret hx hb hr hlk rfl (by rw [hF]) (by rw [hF]; exact (rfl : narrow .boolean (.int (1 : Int32)) = .int (1 : Int32))) dX2_containsHour_58
    · have hF := hF.trans (if_neg c_4)
      refine lv_iload_n hx hb dX2_containsHour_47 rfl (lv_at hl 4 rfl) ?_
      refine lv_iload hx hb dX2_containsHour_48 (lv_at hl 0 rfl) ?_
      refine lv_icmp_gt (tgt := 57) hx hb dX2_containsHour_50 (by decide) (fun c_5 => ?_) (fun c_5 => ?_)
      · have hF := hF.trans (if_pos c_5)
        refine lv_iconst (v := (0 : Int32)) hx hb dX2_containsHour_57 (by decide) ?_
        exact r_ret hx hb hr hlk rfl (by rw [hF]) (by rw [hF]; exact (rfl : narrow .boolean (.int (0 : Int32)) = .int (0 : Int32))) dX2_containsHour_58
      · have hF := hF.trans (if_neg c_5)
        refine lv_iconst (v := (1 : Int32)) hx hb dX2_containsHour_53 (by decide) ?_
        refine lv_goto (tgt := 58) hx hb dX2_containsHour_54 (by decide) ?_
        exact r_ret hx hb hr hlk rfl (by rw [hF]) (by rw [hF]; exact (rfl : narrow .boolean (.int (1 : Int32)) = .int (1 : Int32))) dX2_containsHour_58
  · have hF := hF.trans (if_neg c_3)
    refine lv_iload_n hx hb dX2_containsHour_25 rfl (lv_at hl 1 rfl) ?_
    refine lv_iload_n hx hb dX2_containsHour_26 rfl (lv_at hl 4 rfl) ?_
    refine lv_icmp_gt (tgt := 40) hx hb dX2_containsHour_27 (by decide) (fun c_6 => ?_) (fun c_6 => ?_)
    · have hF := hF.trans (if_pos c_6)
      refine lv_iconst (v := (0 : Int32)) hx hb dX2_containsHour_40 (by decide) ?_
      exact r_ret hx hb hr hlk rfl (by rw [hF]) (by rw [hF]; exact (rfl : narrow .boolean (.int (0 : Int32)) = .int (0 : Int32))) dX2_containsHour_41
    · have hF := hF.trans (if_neg c_6)
      refine lv_iload_n hx hb dX2_containsHour_30 rfl (lv_at hl 4 rfl) ?_
      refine lv_iload hx hb dX2_containsHour_31 (lv_at hl 0 rfl) ?_
      refine lv_icmp_gt (tgt := 40) hx hb dX2_containsHour_33 (by decide) (fun c_7 => ?_) (fun c_7 => ?_)
      · have hF := hF.trans (if_pos c_7)
        refine lv_iconst (v := (0 : Int32)) hx hb dX2_containsHour_40 (by decide) ?_
        exact r_ret hx hb hr hlk rfl (by rw [hF]) (by rw [hF]; exact (rfl : narrow .boolean (.int (0 : Int32)) = .int (0 : Int32))) dX2_containsHour_41
      · have hF := hF.trans (if_neg c_7)
        refine lv_iconst (v := (1 : Int32)) hx hb dX2_containsHour_36 (by decide) ?_
        refine lv_goto (tgt := 41) hx hb dX2_containsHour_37 (by decide) ?_
        exact r_ret hx hb hr hlk rfl (by rw [hF]) (by rw [hF]; exact (rfl : narrow .boolean (.int (1 : Int32)) = .int (1 : Int32))) dX2_containsHour_41
theorem dX2_countHours_0 : decode cX2_countHours 0 = .ok (.aload_n 0, 1) := by decide +kernel
theorem dX2_countHours_1 : decode cX2_countHours 1 = .ok (.getfield 22, 3) := by decide +kernel
theorem dX2_countHours_4 : decode cX2_countHours 4 = .ok (.iload_n 1, 1) := by decide +kernel
theorem dX2_countHours_5 : decode cX2_countHours 5 = .ok (.invokestatic 47, 3) := by decide +kernel
theorem dX2_countHours_8 : decode cX2_countHours 8 = .ok (.aload_n 0, 1) := by decide +kernel
theorem dX2_countHours_9 : decode cX2_countHours 9 = .ok (.getfield 19, 3) := by decide +kernel
theorem dX2_countHours_12 : decode cX2_countHours 12 = .ok (.iload_n 1, 1) := by decide +kernel
theorem dX2_countHours_13 : decode cX2_countHours 13 = .ok (.invokestatic 47, 3) := by decide +kernel
theorem dX2_countHours_16 : decode cX2_countHours 16 = .ok (.isub, 1) := by decide +kernel
theorem dX2_countHours_17 : decode cX2_countHours 17 = .ok (.istore_n 2, 1) := by decide +kernel
theorem dX2_countHours_18 : decode cX2_countHours 18 = .ok (.iload_n 2, 1) := by decide +kernel
theorem dX2_countHours_19 : decode cX2_countHours 19 = .ok (.bipush 24, 2) := by decide +kernel
theorem dX2_countHours_21 : decode cX2_countHours 21 = .ok (.invokestatic 51, 3) := by decide +kernel
theorem u_874 : Cond.methodLink RX2 51 yJ9_floorMod_7cf53 ∈ UW := uw 874 (by decide +kernel) rfl
theorem u_537 : Cond.static yJ9_floorMod_7cf53 ∈ UW := uw 537 (by decide +kernel) rfl
theorem u_44 : Cond.initialized RJ9 ∈ UW := uw 44 (by decide +kernel) rfl
theorem u_538 : Cond.code yJ9_floorMod_7cf53 cJ9_floorMod_7cf53 3 (some .int) ∈ UW := uw 538 (by decide +kernel) rfl
theorem g_X2_51 : GoodIn UW (va_wsS RX2 51 yJ9_floorMod_7cf53 (wsU yJ9_floorMod_7cf53 cJ9_floorMod_7cf53 3 (some .int))) := gS u_874 u_537 u_44 u_538
theorem hds_J9_floorMod_7cf53 : yJ9_floorMod_7cf53.cls ≠ "java/lang/invoke/MethodHandle" ∧ yJ9_floorMod_7cf53.cls ≠ "java/lang/invoke/VarHandle" ∧ (parseMethodDescriptor yJ9_floorMod_7cf53.desc).map (fun d => d.parameters.length) = some 2 := by decide +kernel
theorem dX2_countHours_24 : decode cX2_countHours 24 = .ok (.iconst 1, 1) := by decide +kernel
theorem dX2_countHours_25 : decode cX2_countHours 25 = .ok (.iadd, 1) := by decide +kernel
theorem dX2_countHours_26 : decode cX2_countHours 26 = .ok (.ireturn, 1) := by decide +kernel
def f_X2_countHours (d : DoV) (i : Int32) : Int32 := (let y_3 : Int32 := ((f_X7_at 8 d.2.2.2.1 i) - (f_X7_at 8 d.2.2.1 i)); ((f_J9_floorMod_7cf53 y_3 (24 : Int32)) + (1 : Int32)))
set_option maxHeartbeats 4000000 in
set_option maxRecDepth 100000 in
theorem c_X2_countHours (l : Launch) (G : GG) (dh0 : Nat) (dh1 : Nat) (dh2 : Nat) (dh3 : Nat) (dh4 : Nat) (d : DoV) (i : Int32) : rMet l yX2_countHours cX2_countHours 3 (some .int) 2 G (fl [wDo G dh0 dh1 dh2 dh3 dh4 d]) [.ref dh0, .int i] (some (.int (f_X2_countHours d i))) (True) := by
  refine r_start (by decide +kernel) (Nat.le_of_ble_eq_true rfl) ?_
  intro p e s m below meth c hx hb hr hml hts hown hlk hP hK hST ls hl
  have hS : va_S (fun _ => False) s.heap s.heap [] := va_S.rf
  have hown : s.vm.findClass RX2 = some m.cls := hown
  have hl : lv_has ls 3 [(0, .ref dh0), (1, .int i)] := hl
  have hF : f_X2_countHours d i = (let y_3 : Int32 := ((f_X7_at 8 d.2.2.2.1 i) - (f_X7_at 8 d.2.2.1 i)); ((f_J9_floorMod_7cf53 y_3 (24 : Int32)) + (1 : Int32))) := rfl
  refine lv_aload_n hx hb dX2_countHours_0 rfl (lv_at hl 0 rfl) ?_
  refine va_get (D := G.1) (ci := 6) (v := .ref dh3) (C := RX2) (T := TX2) (N := 5) hx hb hts uws_X2 hown hK hP 0 rfl rfl 3 (by decide) (hts _ u_945) (fun _ h9 => h9) rfl dX2_countHours_1 ?_
  refine lv_iload_n hx hb dX2_countHours_4 rfl (lv_at hl 1 rfl) ?_
  refine r_S (own := RX2) (v := (some (.int (f_X7_at 8 d.2.2.2.1 i)))) (st1 := [.int (f_X7_at 8 d.2.2.2.1 i)]) (As := [.ref dh3, .int i]) (rest := []) (c_X7_at l G dh3 8 d.2.2.2.1 i (by decide)) ⟨hx, hb, hml, hown, hts⟩ g_X2_47 hds_X7_at hK hST hS hP [3] rfl ⟨Nat.le_of_ble_eq_true rfl, Nat.le_of_ble_eq_true rfl⟩ ⟨Nat.le_of_ble_eq_true rfl, Nat.le_of_ble_eq_true rfl⟩ rfl hl.1 rfl (Nat.le_of_ble_eq_true rfl) dX2_countHours_5 rfl (fun b_1 => ?_)
  refine lv_aload_n hx hb dX2_countHours_8 rfl (lv_at hl 0 rfl) ?_
  refine va_get (D := G.1) (ci := 6) (v := .ref dh2) (C := RX2) (T := TX2) (N := 5) hx hb hts uws_X2 hown hK hP 0 rfl rfl 2 (by decide) (hts _ u_944) (fun _ h9 => h9) rfl dX2_countHours_9 ?_
  refine lv_iload_n hx hb dX2_countHours_12 rfl (lv_at hl 1 rfl) ?_
  refine r_S (own := RX2) (v := (some (.int (f_X7_at 8 d.2.2.1 i)))) (st1 := [.int (f_X7_at 8 d.2.2.1 i), .int (f_X7_at 8 d.2.2.2.1 i)]) (As := [.ref dh2, .int i]) (rest := [.int (f_X7_at 8 d.2.2.2.1 i)]) (c_X7_at l G dh2 8 d.2.2.1 i (by decide)) ⟨hx, hb, hml, hown, hts⟩ g_X2_47 hds_X7_at hK hST hS hP [2] rfl ⟨Nat.le_of_ble_eq_true rfl, Nat.le_of_ble_eq_true rfl⟩ ⟨Nat.le_of_ble_eq_true rfl, Nat.le_of_ble_eq_true rfl⟩ rfl hl.1 rfl (Nat.le_of_ble_eq_true rfl) dX2_countHours_13 rfl (fun b_2 => ?_)
  refine lv_isub hx hb dX2_countHours_16 ?_
  refine lv_topi (fun y_3 ey_3 => ?_)
  have hF : f_X2_countHours d i = ((f_J9_floorMod_7cf53 y_3 (24 : Int32)) + (1 : Int32)) := by subst ey_3; exact hF
  refine lv_istore_n (lv' := [(2, .int y_3), (0, .ref dh0), (1, .int i)]) hx hb dX2_countHours_17 rfl hl (by decide) rfl (fun ls hl => ?_)
  refine lv_iload_n hx hb dX2_countHours_18 rfl (lv_at hl 0 rfl) ?_
  refine lv_bipush (v := (24 : Int32)) hx hb dX2_countHours_19 (by decide) ?_
  refine r_S (own := RX2) (v := (some (.int (f_J9_floorMod_7cf53 y_3 (24 : Int32))))) (st1 := [.int (f_J9_floorMod_7cf53 y_3 (24 : Int32))]) (As := [.int y_3, .int (24 : Int32)]) (rest := []) (c_J9_floorMod_7cf53 l G y_3 (24 : Int32) (by decide)) ⟨hx, hb, hml, hown, hts⟩ g_X2_51 hds_J9_floorMod_7cf53 hK hST hS hP [] rfl ⟨Nat.le_of_ble_eq_true rfl, Nat.le_of_ble_eq_true rfl⟩ ⟨Nat.le_of_ble_eq_true rfl, Nat.le_of_ble_eq_true rfl⟩ rfl hl.1 rfl (Nat.le_of_ble_eq_true rfl) dX2_countHours_21 rfl (fun b_4 => ?_)
  refine lv_iconst (v := (1 : Int32)) hx hb dX2_countHours_24 (by decide) ?_
  refine lv_iadd hx hb dX2_countHours_25 ?_
  exact r_ret hx hb hr hlk rfl (by rw [hF]) trivial dX2_countHours_26
theorem dX2_firstHourFrom_0 : decode cX2_firstHourFrom 0 = .ok (.aload_n 0, 1) := by decide +kernel
theorem dX2_firstHourFrom_1 : decode cX2_firstHourFrom 1 = .ok (.iload_n 1, 1) := by decide +kernel
theorem dX2_firstHourFrom_2 : decode cX2_firstHourFrom 2 = .ok (.iload_n 2, 1) := by decide +kernel
theorem dX2_firstHourFrom_3 : decode cX2_firstHourFrom 3 = .ok (.invokevirtual 57, 3) := by decide +kernel
theorem u_1560 : Cond.methodLink RX2 57 yX2_containsHour ∈ UW := uw 1560 (by decide +kernel) rfl
theorem u_541 : Cond.instanceMethod yX2_containsHour ∈ UW := uw 541 (by decide +kernel) rfl
theorem u_542 : Cond.selects RX2 yX2_containsHour yX2_containsHour ∈ UW := uw 542 (by decide +kernel) rfl
theorem u_543 : Cond.code yX2_containsHour cX2_containsHour 5 (some .boolean) ∈ UW := uw 543 (by decide +kernel) rfl
theorem g_X2_57 : GoodIn UW (wsV RX2 57 RX2 yX2_containsHour (wsU yX2_containsHour cX2_containsHour 5 (some .boolean))) := gV u_1560 u_541 u_542 u_23 u_543
theorem hdv_X2_containsHour : yX2_containsHour.cls = RX2 ∧ yX2_containsHour.cls ≠ "java/lang/invoke/MethodHandle" ∧ yX2_containsHour.cls ≠ "java/lang/invoke/VarHandle" ∧ (parseMethodDescriptor yX2_containsHour.desc).map (fun d => d.parameters.length) = some 2 := by decide +kernel
theorem dX2_firstHourFrom_6 : decode cX2_firstHourFrom 6 = .ok (.ifCond .eq 5, 3) := by decide +kernel
theorem dX2_firstHourFrom_11 : decode cX2_firstHourFrom 11 = .ok (.aload_n 0, 1) := by decide +kernel
theorem dX2_firstHourFrom_12 : decode cX2_firstHourFrom 12 = .ok (.getfield 19, 3) := by decide +kernel
theorem dX2_firstHourFrom_15 : decode cX2_firstHourFrom 15 = .ok (.iload_n 1, 1) := by decide +kernel
theorem dX2_firstHourFrom_16 : decode cX2_firstHourFrom 16 = .ok (.invokestatic 47, 3) := by decide +kernel
theorem dX2_firstHourFrom_19 : decode cX2_firstHourFrom 19 = .ok (.istore_n 3, 1) := by decide +kernel
theorem dX2_firstHourFrom_20 : decode cX2_firstHourFrom 20 = .ok (.iload_n 3, 1) := by decide +kernel
theorem dX2_firstHourFrom_21 : decode cX2_firstHourFrom 21 = .ok (.iload_n 2, 1) := by decide +kernel
theorem dX2_firstHourFrom_22 : decode cX2_firstHourFrom 22 = .ok (.if_icmp .le 7, 3) := by decide +kernel
theorem dX2_firstHourFrom_29 : decode cX2_firstHourFrom 29 = .ok (.iconst (-1), 1) := by decide +kernel
theorem dX2_firstHourFrom_30 : decode cX2_firstHourFrom 30 = .ok (.ireturn, 1) := by decide +kernel
theorem dX2_firstHourFrom_25 : decode cX2_firstHourFrom 25 = .ok (.iload_n 3, 1) := by decide +kernel
theorem dX2_firstHourFrom_26 : decode cX2_firstHourFrom 26 = .ok (.goto 4, 3) := by decide +kernel
theorem dX2_firstHourFrom_9 : decode cX2_firstHourFrom 9 = .ok (.iload_n 2, 1) := by decide +kernel
theorem dX2_firstHourFrom_10 : decode cX2_firstHourFrom 10 = .ok (.ireturn, 1) := by decide +kernel
def f_X2_firstHourFrom (d : DoV) (i : Int32) (h : Int32) : Int32 := (if (f_X2_containsHour d i h) = (0 : Int32) then (if (f_X7_at 8 d.2.2.1 i) ≤ h then (-1 : Int32) else (f_X7_at 8 d.2.2.1 i)) else h)
set_option maxHeartbeats 4000000 in
set_option maxRecDepth 100000 in
theorem c_X2_firstHourFrom (l : Launch) (G : GG) (dh0 : Nat) (dh1 : Nat) (dh2 : Nat) (dh3 : Nat) (dh4 : Nat) (d : DoV) (i : Int32) (h : Int32) : rMet l yX2_firstHourFrom cX2_firstHourFrom 4 (some .int) 3 G (fl [wDo G dh0 dh1 dh2 dh3 dh4 d]) [.ref dh0, .int i, .int h] (some (.int (f_X2_firstHourFrom d i h))) (True) := by
  refine r_start (by decide +kernel) (Nat.le_of_ble_eq_true rfl) ?_
  intro p e s m below meth c hx hb hr hml hts hown hlk hP hK hST ls hl
  have hS : va_S (fun _ => False) s.heap s.heap [] := va_S.rf
  have hown : s.vm.findClass RX2 = some m.cls := hown
  have hl : lv_has ls 4 [(0, .ref dh0), (1, .int i), (2, .int h)] := hl
  have hF : f_X2_firstHourFrom d i h = (if (f_X2_containsHour d i h) = (0 : Int32) then (if (f_X7_at 8 d.2.2.1 i) ≤ h then (-1 : Int32) else (f_X7_at 8 d.2.2.1 i)) else h) := rfl
  refine lv_aload_n hx hb dX2_firstHourFrom_0 rfl (lv_at hl 0 rfl) ?_
  refine lv_iload_n hx hb dX2_firstHourFrom_1 rfl (lv_at hl 1 rfl) ?_
  refine lv_iload_n hx hb dX2_firstHourFrom_2 rfl (lv_at hl 2 rfl) ?_
  refine r_V (own := RX2) (v := (some (.int (f_X2_containsHour d i h)))) (st1 := [.int (f_X2_containsHour d i h)]) (As := [.int i, .int h]) (rest := []) (c_X2_containsHour l G dh0 dh1 dh2 dh3 dh4 d i h) ⟨hx, hb, hml, hown, hts⟩ g_X2_57 hdv_X2_containsHour hK hST hS hP [0, 1, 2, 3, 4] rfl (k0 := 0) rfl rfl rfl ⟨Nat.le_of_ble_eq_true rfl, Nat.le_of_ble_eq_true rfl⟩ ⟨Nat.le_of_ble_eq_true rfl, Nat.le_of_ble_eq_true rfl⟩ rfl hl.1 rfl (Nat.le_of_ble_eq_true rfl) dX2_firstHourFrom_3 rfl (fun b_1 => ?_)
  refine lv_if_eq (tgt := 11) hx hb dX2_firstHourFrom_6 (by decide) (fun c_2 => ?_) (fun c_2 => ?_)
  · have hF := hF.trans (if_pos c_2)
    refine lv_aload_n hx hb dX2_firstHourFrom_11 rfl (lv_at hl 0 rfl) ?_
    refine va_get (D := G.1) (ci := 6) (v := .ref dh2) (C := RX2) (T := TX2) (N := 5) hx hb hts uws_X2 hown hK hP 0 rfl rfl 2 (by decide) (hts _ u_944) (fun _ h9 => h9) rfl dX2_firstHourFrom_12 ?_
    refine lv_iload_n hx hb dX2_firstHourFrom_15 rfl (lv_at hl 1 rfl) ?_
    refine r_S (own := RX2) (v := (some (.int (f_X7_at 8 d.2.2.1 i)))) (st1 := [.int (f_X7_at 8 d.2.2.1 i)]) (As := [.ref dh2, .int i]) (rest := []) (c_X7_at l G dh2 8 d.2.2.1 i (by decide)) ⟨hx, hb, hml, hown, hts⟩ g_X2_47 hds_X7_at hK hST hS hP [2] rfl ⟨Nat.le_of_ble_eq_true rfl, Nat.le_of_ble_eq_true rfl⟩ ⟨Nat.le_of_ble_eq_true rfl, Nat.le_of_ble_eq_true rfl⟩ rfl hl.1 rfl (Nat.le_of_ble_eq_true rfl) dX2_firstHourFrom_16 rfl (fun b_3 => ?_)
    refine lv_istore_n (lv' := [(3, .int (f_X7_at 8 d.2.2.1 i)), (0, .ref dh0), (1, .int i), (2, .int h)]) hx hb dX2_firstHourFrom_19 rfl hl (by decide) rfl (fun ls hl => ?_)
    refine lv_iload_n hx hb dX2_firstHourFrom_20 rfl (lv_at hl 0 rfl) ?_
    refine lv_iload_n hx hb dX2_firstHourFrom_21 rfl (lv_at hl 3 rfl) ?_
    refine lv_icmp_le (tgt := 29) hx hb dX2_firstHourFrom_22 (by decide) (fun c_4 => ?_) (fun c_4 => ?_)
    · have hF := hF.trans (if_pos c_4)
      refine lv_iconst (v := (-1 : Int32)) hx hb dX2_firstHourFrom_29 (by decide) ?_
      exact r_ret hx hb hr hlk rfl (by rw [hF]) trivial dX2_firstHourFrom_30
    · have hF := hF.trans (if_neg c_4)
      refine lv_iload_n hx hb dX2_firstHourFrom_25 rfl (lv_at hl 0 rfl) ?_
      refine lv_goto (tgt := 30) hx hb dX2_firstHourFrom_26 (by decide) ?_
      exact r_ret hx hb hr hlk rfl (by rw [hF]) trivial dX2_firstHourFrom_30
  · have hF := hF.trans (if_neg c_2)
    refine lv_iload_n hx hb dX2_firstHourFrom_9 rfl (lv_at hl 2 rfl) ?_
    exact r_ret hx hb hr hlk rfl (by rw [hF]) trivial dX2_firstHourFrom_10
theorem dX2_copyFrom_0 : decode cX2_copyFrom 0 = .ok (.aload_n 1, 1) := by decide +kernel
theorem dX2_copyFrom_1 : decode cX2_copyFrom 1 = .ok (.ifnonnull 4, 3) := by decide +kernel
theorem dX2_copyFrom_5 : decode cX2_copyFrom 5 = .ok (.aload_n 0, 1) := by decide +kernel
theorem dX2_copyFrom_6 : decode cX2_copyFrom 6 = .ok (.aload_n 1, 1) := by decide +kernel
theorem dX2_copyFrom_7 : decode cX2_copyFrom 7 = .ok (.getfield 9, 3) := by decide +kernel
theorem dX2_copyFrom_10 : decode cX2_copyFrom 10 = .ok (.putfield 9, 3) := by decide +kernel
theorem dX2_copyFrom_13 : decode cX2_copyFrom 13 = .ok (.aload_n 1, 1) := by decide +kernel
theorem dX2_copyFrom_14 : decode cX2_copyFrom 14 = .ok (.getfield 15, 3) := by decide +kernel
theorem dX2_copyFrom_17 : decode cX2_copyFrom 17 = .ok (.aload_n 0, 1) := by decide +kernel
theorem dX2_copyFrom_18 : decode cX2_copyFrom 18 = .ok (.getfield 15, 3) := by decide +kernel
theorem dX2_copyFrom_21 : decode cX2_copyFrom 21 = .ok (.invokestatic 82, 3) := by decide +kernel
theorem u_557 : Cond.methodLink RX2 82 yX7_copy ∈ UW := uw 557 (by decide +kernel) rfl
theorem u_558 : Cond.static yX7_copy ∈ UW := uw 558 (by decide +kernel) rfl
theorem u_559 : Cond.code yX7_copy cX7_copy 3 none ∈ UW := uw 559 (by decide +kernel) rfl
theorem g_X2_82 : GoodIn UW (va_wsS RX2 82 yX7_copy (wsU yX7_copy cX7_copy 3 none)) := gS u_557 u_558 u_43 u_559
theorem hds_X7_copy : yX7_copy.cls ≠ "java/lang/invoke/MethodHandle" ∧ yX7_copy.cls ≠ "java/lang/invoke/VarHandle" ∧ (parseMethodDescriptor yX7_copy.desc).map (fun d => d.parameters.length) = some 2 := by decide +kernel
theorem dX2_copyFrom_24 : decode cX2_copyFrom 24 = .ok (.aload_n 1, 1) := by decide +kernel
theorem dX2_copyFrom_25 : decode cX2_copyFrom 25 = .ok (.getfield 19, 3) := by decide +kernel
theorem dX2_copyFrom_28 : decode cX2_copyFrom 28 = .ok (.aload_n 0, 1) := by decide +kernel
theorem dX2_copyFrom_29 : decode cX2_copyFrom 29 = .ok (.getfield 19, 3) := by decide +kernel
theorem dX2_copyFrom_32 : decode cX2_copyFrom 32 = .ok (.invokestatic 82, 3) := by decide +kernel
theorem dX2_copyFrom_35 : decode cX2_copyFrom 35 = .ok (.aload_n 1, 1) := by decide +kernel
theorem dX2_copyFrom_36 : decode cX2_copyFrom 36 = .ok (.getfield 22, 3) := by decide +kernel
theorem dX2_copyFrom_39 : decode cX2_copyFrom 39 = .ok (.aload_n 0, 1) := by decide +kernel
theorem dX2_copyFrom_40 : decode cX2_copyFrom 40 = .ok (.getfield 22, 3) := by decide +kernel
theorem dX2_copyFrom_43 : decode cX2_copyFrom 43 = .ok (.invokestatic 82, 3) := by decide +kernel
theorem dX2_copyFrom_46 : decode cX2_copyFrom 46 = .ok (.aload_n 1, 1) := by decide +kernel
theorem dX2_copyFrom_47 : decode cX2_copyFrom 47 = .ok (.getfield 25, 3) := by decide +kernel
theorem dX2_copyFrom_50 : decode cX2_copyFrom 50 = .ok (.aload_n 0, 1) := by decide +kernel
theorem dX2_copyFrom_51 : decode cX2_copyFrom 51 = .ok (.getfield 25, 3) := by decide +kernel
theorem dX2_copyFrom_54 : decode cX2_copyFrom 54 = .ok (.invokestatic 82, 3) := by decide +kernel
theorem dX2_copyFrom_57 : decode cX2_copyFrom 57 = .ok (.return_, 1) := by decide +kernel
def f_X2_copyFrom (d : DoV) (o : DoV) : DoV := (let u_2 : (Nat → Int32) := (f_X7_copy 8 o.2.1 8 d.2.1); (let u_4 : (Nat → Int32) := (f_X7_copy 8 o.2.2.1 8 d.2.2.1); (let u_6 : (Nat → Int32) := (f_X7_copy 8 o.2.2.2.1 8 d.2.2.2.1); (let u_8 : (Nat → Int32) := (f_X7_copy 8 o.2.2.2.2 8 d.2.2.2.2); (o.1, u_2, u_4, u_6, u_8)))))
set_option maxHeartbeats 4000000 in
set_option maxRecDepth 100000 in
theorem c_X2_copyFrom (l : Launch) (G : GG) (dh0 : Nat) (dh1 : Nat) (dh2 : Nat) (dh3 : Nat) (dh4 : Nat) (oh0 : Nat) (oh1 : Nat) (oh2 : Nat) (oh3 : Nat) (oh4 : Nat) (sz : Nat) (d : DoV) (o : DoV) : wMet l yX2_copyFrom cX2_copyFrom 2 none 2 0 0 G (fl [wDo G dh0 dh1 dh2 dh3 dh4 d, wDo G oh0 oh1 oh2 oh3 oh4 o]) [.ref dh0, .ref oh0] sz (fun u : DoV => none) (fun u : DoV => u = f_X2_copyFrom d o) (fun u : DoV => fl [wDo G dh0 dh1 dh2 dh3 dh4 u, wDo G oh0 oh1 oh2 oh3 oh4 o]) := by
  refine w_start (by decide +kernel) (Nat.le_of_ble_eq_true rfl) ?_
  intro p e s m below meth c A hx hb hr hml hts hown hlk hin hP hD hA hK hST ls hl
  have hS : va_S A s.heap s.heap [] := va_S.rf
  have hown : s.vm.findClass RX2 = some m.cls := hown
  have hl : lv_has ls 2 [(0, .ref dh0), (1, .ref oh0)] := hl
  have hF : f_X2_copyFrom d o = (let u_2 : (Nat → Int32) := (f_X7_copy 8 o.2.1 8 d.2.1); (let u_4 : (Nat → Int32) := (f_X7_copy 8 o.2.2.1 8 d.2.2.1); (let u_6 : (Nat → Int32) := (f_X7_copy 8 o.2.2.2.1 8 d.2.2.2.1); (let u_8 : (Nat → Int32) := (f_X7_copy 8 o.2.2.2.2 8 d.2.2.2.2); (o.1, u_2, u_4, u_6, u_8))))) := rfl
  refine lv_aload_n hx hb dX2_copyFrom_0 rfl (lv_at hl 1 rfl) ?_
  refine lv_ifnonnull (tgt := 5) hx hb dX2_copyFrom_1 (by decide) ?_
  refine lv_aload_n hx hb dX2_copyFrom_5 rfl (lv_at hl 0 rfl) ?_
  refine lv_aload_n hx hb dX2_copyFrom_6 rfl (lv_at hl 1 rfl) ?_
  refine va_get (D := G.1) (ci := 6) (v := .int o.1) (C := RX2) (T := TX2) (N := 5) hx hb hts uws_X2 hown hK hP 5 rfl rfl 0 (by decide) (hts _ u_940) (fun _ h9 => h9) rfl dX2_copyFrom_7 ?_
  refine va_put (D := G.1) (ci := 6) (v := .int o.1) (ty := .int) (C := RX2) (T := TX2) (N := 5) hx hb hts uws_X2 tyX2 tyX2_ok nmX2 hown hK hP hD hS 0 rfl rfl 0 (by decide) (hts _ u_940) (fun _ h9 => h9) rfl (by decide +kernel) rfl rfl (Nat.le_of_ble_eq_true rfl) dX2_copyFrom_10 (fun H locs hP hD hS => ?_)
  have hP : va_P G.1 vwCl (fl [wDo G dh0 dh1 dh2 dh3 dh4 (o.1, d.2.1, d.2.2.1, d.2.2.2.1, d.2.2.2.2), wDo G oh0 oh1 oh2 oh3 oh4 o]) H := hP
  have hD : va_D A (fl [wDo G dh0 dh1 dh2 dh3 dh4 (o.1, d.2.1, d.2.2.1, d.2.2.2.1, d.2.2.2.2), wDo G oh0 oh1 oh2 oh3 oh4 o]) := hD
  refine lv_aload_n hx hb dX2_copyFrom_13 rfl (lv_at hl 1 rfl) ?_
  refine va_get (D := G.1) (ci := 6) (v := .ref oh1) (C := RX2) (T := TX2) (N := 5) hx hb hts uws_X2 hown hK hP 5 rfl rfl 1 (by decide) (hts _ u_943) (fun _ h9 => h9) rfl dX2_copyFrom_14 ?_
  refine lv_aload_n hx hb dX2_copyFrom_17 rfl (lv_at hl 0 rfl) ?_
  refine va_get (D := G.1) (ci := 6) (v := .ref dh1) (C := RX2) (T := TX2) (N := 5) hx hb hts uws_X2 hown hK hP 0 rfl rfl 1 (by decide) (hts _ u_943) (fun _ h9 => h9) rfl dX2_copyFrom_18 ?_
  have hP : va_P G.1 vwCl (fl [wDo G dh0 dh1 dh2 dh3 dh4 (o.1, d.2.1, d.2.2.1, d.2.2.2.1, d.2.2.2.2), [(oh0, .inr (6, [.int o.1, .ref oh1, .ref oh2, .ref oh3, .ref oh4]))], [cArr G oh1 8 o.2.1], [cArr G oh2 8 o.2.2.1], [cArr G oh3 8 o.2.2.2.1], [cArr G oh4 8 o.2.2.2.2]]) H := hP
  have hD : va_D A (fl [wDo G dh0 dh1 dh2 dh3 dh4 (o.1, d.2.1, d.2.2.1, d.2.2.2.1, d.2.2.2.2), [(oh0, .inr (6, [.int o.1, .ref oh1, .ref oh2, .ref oh3, .ref oh4]))], [cArr G oh1 8 o.2.1], [cArr G oh2 8 o.2.2.1], [cArr G oh3 8 o.2.2.2.1], [cArr G oh4 8 o.2.2.2.2]]) := hD
  have hP : va_P G.1 vwCl (fl [[(dh0, .inr (6, [.int o.1, .ref dh1, .ref dh2, .ref dh3, .ref dh4]))], [cArr G dh1 8 d.2.1], [cArr G dh2 8 d.2.2.1], [cArr G dh3 8 d.2.2.2.1], [cArr G dh4 8 d.2.2.2.2], [(oh0, .inr (6, [.int o.1, .ref oh1, .ref oh2, .ref oh3, .ref oh4]))], [cArr G oh1 8 o.2.1], [cArr G oh2 8 o.2.2.1], [cArr G oh3 8 o.2.2.2.1], [cArr G oh4 8 o.2.2.2.2]]) H := hP
  have hD : va_D A (fl [[(dh0, .inr (6, [.int o.1, .ref dh1, .ref dh2, .ref dh3, .ref dh4]))], [cArr G dh1 8 d.2.1], [cArr G dh2 8 d.2.2.1], [cArr G dh3 8 d.2.2.2.1], [cArr G dh4 8 d.2.2.2.2], [(oh0, .inr (6, [.int o.1, .ref oh1, .ref oh2, .ref oh3, .ref oh4]))], [cArr G oh1 8 o.2.1], [cArr G oh2 8 o.2.2.1], [cArr G oh3 8 o.2.2.2.1], [cArr G oh4 8 o.2.2.2.2]]) := hD
  refine w_S (own := RX2) (cs := [[cArr G oh1 8 o.2.1], [cArr G dh1 8 d.2.1]]) (rs := [[(dh0, .inr (6, [.int o.1, .ref dh1, .ref dh2, .ref dh3, .ref dh4]))], [cArr G dh2 8 d.2.2.1], [cArr G dh3 8 d.2.2.2.1], [cArr G dh4 8 d.2.2.2.2], [(oh0, .inr (6, [.int o.1, .ref oh1, .ref oh2, .ref oh3, .ref oh4]))], [cArr G oh2 8 o.2.2.1], [cArr G oh3 8 o.2.2.2.1], [cArr G oh4 8 o.2.2.2.2]]) (As := [.ref oh1, .ref dh1]) (rest := []) (c_X7_copy l G oh1 dh1 H.size 8 o.2.1 8 d.2.1 (by decide) (by decide)) ⟨hx, hb, hml, hown, hts⟩ g_X2_82 hds_X7_copy hK hST hS hP hD hA [6, 1] [0, 2, 3, 4, 5, 7, 8, 9] rfl rfl rfl ⟨Nat.le_of_ble_eq_true rfl, Nat.le_of_ble_eq_true rfl⟩ ⟨Nat.le_of_ble_eq_true rfl, Nat.le_of_ble_eq_true rfl⟩ rfl hl.1 rfl (Nat.le_of_ble_eq_true rfl) dX2_copyFrom_21 (fun u_2 H locs huu hP hD hS => ?_)
  have eu_2 := huu
  have hP : va_P G.1 vwCl (fl [[cArr G oh1 8 o.2.1], [cArr G dh1 8 u_2], [(dh0, .inr (6, [.int o.1, .ref dh1, .ref dh2, .ref dh3, .ref dh4]))], [cArr G dh2 8 d.2.2.1], [cArr G dh3 8 d.2.2.2.1], [cArr G dh4 8 d.2.2.2.2], [(oh0, .inr (6, [.int o.1, .ref oh1, .ref oh2, .ref oh3, .ref oh4]))], [cArr G oh2 8 o.2.2.1], [cArr G oh3 8 o.2.2.2.1], [cArr G oh4 8 o.2.2.2.2]]) H := hP
  have hD : va_D A (fl [[cArr G oh1 8 o.2.1], [cArr G dh1 8 u_2], [(dh0, .inr (6, [.int o.1, .ref dh1, .ref dh2, .ref dh3, .ref dh4]))], [cArr G dh2 8 d.2.2.1], [cArr G dh3 8 d.2.2.2.1], [cArr G dh4 8 d.2.2.2.2], [(oh0, .inr (6, [.int o.1, .ref oh1, .ref oh2, .ref oh3, .ref oh4]))], [cArr G oh2 8 o.2.2.1], [cArr G oh3 8 o.2.2.2.1], [cArr G oh4 8 o.2.2.2.2]]) := hD
  refine W.eq (g2 := F0 m 24 ls []) rfl ?_
  have hF : f_X2_copyFrom d o = (let u_4 : (Nat → Int32) := (f_X7_copy 8 o.2.2.1 8 d.2.2.1); (let u_6 : (Nat → Int32) := (f_X7_copy 8 o.2.2.2.1 8 d.2.2.2.1); (let u_8 : (Nat → Int32) := (f_X7_copy 8 o.2.2.2.2 8 d.2.2.2.2); (o.1, u_2, u_4, u_6, u_8)))) := by subst eu_2; exact hF
  refine lv_aload_n hx hb dX2_copyFrom_24 rfl (lv_at hl 1 rfl) ?_
  refine va_get (D := G.1) (ci := 6) (v := .ref oh2) (C := RX2) (T := TX2) (N := 5) hx hb hts uws_X2 hown hK hP 6 rfl rfl 2 (by decide) (hts _ u_944) (fun _ h9 => h9) rfl dX2_copyFrom_25 ?_
  refine lv_aload_n hx hb dX2_copyFrom_28 rfl (lv_at hl 0 rfl) ?_
  refine va_get (D := G.1) (ci := 6) (v := .ref dh2) (C := RX2) (T := TX2) (N := 5) hx hb hts uws_X2 hown hK hP 2 rfl rfl 2 (by decide) (hts _ u_944) (fun _ h9 => h9) rfl dX2_copyFrom_29 ?_
  refine w_S (own := RX2) (cs := [[cArr G oh2 8 o.2.2.1], [cArr G dh2 8 d.2.2.1]]) (rs := [[cArr G oh1 8 o.2.1], [cArr G dh1 8 u_2], [(dh0, .inr (6, [.int o.1, .ref dh1, .ref dh2, .ref dh3, .ref dh4]))], [cArr G dh3 8 d.2.2.2.1], [cArr G dh4 8 d.2.2.2.2], [(oh0, .inr (6, [.int o.1, .ref oh1, .ref oh2, .ref oh3, .ref oh4]))], [cArr G oh3 8 o.2.2.2.1], [cArr G oh4 8 o.2.2.2.2]]) (As := [.ref oh2, .ref dh2]) (rest := []) (c_X7_copy l G oh2 dh2 H.size 8 o.2.2.1 8 d.2.2.1 (by decide) (by decide)) ⟨hx, hb, hml, hown, hts⟩ g_X2_82 hds_X7_copy hK hST hS hP hD hA [7, 3] [0, 1, 2, 4, 5, 6, 8, 9] rfl rfl rfl ⟨Nat.le_of_ble_eq_true rfl, Nat.le_of_ble_eq_true rfl⟩ ⟨Nat.le_of_ble_eq_true rfl, Nat.le_of_ble_eq_true rfl⟩ rfl hl.1 rfl (Nat.le_of_ble_eq_true rfl) dX2_copyFrom_32 (fun u_4 H locs huu hP hD hS => ?_)
  have eu_4 := huu
  have hP : va_P G.1 vwCl (fl [[cArr G oh2 8 o.2.2.1], [cArr G dh2 8 u_4], [cArr G oh1 8 o.2.1], [cArr G dh1 8 u_2], [(dh0, .inr (6, [.int o.1, .ref dh1, .ref dh2, .ref dh3, .ref dh4]))], [cArr G dh3 8 d.2.2.2.1], [cArr G dh4 8 d.2.2.2.2], [(oh0, .inr (6, [.int o.1, .ref oh1, .ref oh2, .ref oh3, .ref oh4]))], [cArr G oh3 8 o.2.2.2.1], [cArr G oh4 8 o.2.2.2.2]]) H := hP
  have hD : va_D A (fl [[cArr G oh2 8 o.2.2.1], [cArr G dh2 8 u_4], [cArr G oh1 8 o.2.1], [cArr G dh1 8 u_2], [(dh0, .inr (6, [.int o.1, .ref dh1, .ref dh2, .ref dh3, .ref dh4]))], [cArr G dh3 8 d.2.2.2.1], [cArr G dh4 8 d.2.2.2.2], [(oh0, .inr (6, [.int o.1, .ref oh1, .ref oh2, .ref oh3, .ref oh4]))], [cArr G oh3 8 o.2.2.2.1], [cArr G oh4 8 o.2.2.2.2]]) := hD
  refine W.eq (g2 := F0 m 35 ls []) rfl ?_
  have hF : f_X2_copyFrom d o = (let u_6 : (Nat → Int32) := (f_X7_copy 8 o.2.2.2.1 8 d.2.2.2.1); (let u_8 : (Nat → Int32) := (f_X7_copy 8 o.2.2.2.2 8 d.2.2.2.2); (o.1, u_2, u_4, u_6, u_8))) := by subst eu_4; exact hF
  refine lv_aload_n hx hb dX2_copyFrom_35 rfl (lv_at hl 1 rfl) ?_
  refine va_get (D := G.1) (ci := 6) (v := .ref oh3) (C := RX2) (T := TX2) (N := 5) hx hb hts uws_X2 hown hK hP 7 rfl rfl 3 (by decide) (hts _ u_945) (fun _ h9 => h9) rfl dX2_copyFrom_36 ?_
  refine lv_aload_n hx hb dX2_copyFrom_39 rfl (lv_at hl 0 rfl) ?_
  refine va_get (D := G.1) (ci := 6) (v := .ref dh3) (C := RX2) (T := TX2) (N := 5) hx hb hts uws_X2 hown hK hP 4 rfl rfl 3 (by decide) (hts _ u_945) (fun _ h9 => h9) rfl dX2_copyFrom_40 ?_
  refine w_S (own := RX2) (cs := [[cArr G oh3 8 o.2.2.2.1], [cArr G dh3 8 d.2.2.2.1]]) (rs := [[cArr G oh2 8 o.2.2.1], [cArr G dh2 8 u_4], [cArr G oh1 8 o.2.1], [cArr G dh1 8 u_2], [(dh0, .inr (6, [.int o.1, .ref dh1, .ref dh2, .ref dh3, .ref dh4]))], [cArr G dh4 8 d.2.2.2.2], [(oh0, .inr (6, [.int o.1, .ref oh1, .ref oh2, .ref oh3, .ref oh4]))], [cArr G oh4 8 o.2.2.2.2]]) (As := [.ref oh3, .ref dh3]) (rest := []) (c_X7_copy l G oh3 dh3 H.size 8 o.2.2.2.1 8 d.2.2.2.1 (by decide) (by decide)) ⟨hx, hb, hml, hown, hts⟩ g_X2_82 hds_X7_copy hK hST hS hP hD hA [8, 5] [0, 1, 2, 3, 4, 6, 7, 9] rfl rfl rfl ⟨Nat.le_of_ble_eq_true rfl, Nat.le_of_ble_eq_true rfl⟩ ⟨Nat.le_of_ble_eq_true rfl, Nat.le_of_ble_eq_true rfl⟩ rfl hl.1 rfl (Nat.le_of_ble_eq_true rfl) dX2_copyFrom_43 (fun u_6 H locs huu hP hD hS => ?_)
  have eu_6 := huu
  have hP : va_P G.1 vwCl (fl [[cArr G oh3 8 o.2.2.2.1], [cArr G dh3 8 u_6], [cArr G oh2 8 o.2.2.1], [cArr G dh2 8 u_4], [cArr G oh1 8 o.2.1], [cArr G dh1 8 u_2], [(dh0, .inr (6, [.int o.1, .ref dh1, .ref dh2, .ref dh3, .ref dh4]))], [cArr G dh4 8 d.2.2.2.2], [(oh0, .inr (6, [.int o.1, .ref oh1, .ref oh2, .ref oh3, .ref oh4]))], [cArr G oh4 8 o.2.2.2.2]]) H := hP
  have hD : va_D A (fl [[cArr G oh3 8 o.2.2.2.1], [cArr G dh3 8 u_6], [cArr G oh2 8 o.2.2.1], [cArr G dh2 8 u_4], [cArr G oh1 8 o.2.1], [cArr G dh1 8 u_2], [(dh0, .inr (6, [.int o.1, .ref dh1, .ref dh2, .ref dh3, .ref dh4]))], [cArr G dh4 8 d.2.2.2.2], [(oh0, .inr (6, [.int o.1, .ref oh1, .ref oh2, .ref oh3, .ref oh4]))], [cArr G oh4 8 o.2.2.2.2]]) := hD
  refine W.eq (g2 := F0 m 46 ls []) rfl ?_
  have hF : f_X2_copyFrom d o = (let u_8 : (Nat → Int32) := (f_X7_copy 8 o.2.2.2.2 8 d.2.2.2.2); (o.1, u_2, u_4, u_6, u_8)) := by subst eu_6; exact hF
  refine lv_aload_n hx hb dX2_copyFrom_46 rfl (lv_at hl 1 rfl) ?_
  refine va_get (D := G.1) (ci := 6) (v := .ref oh4) (C := RX2) (T := TX2) (N := 5) hx hb hts uws_X2 hown hK hP 8 rfl rfl 4 (by decide) (hts _ u_946) (fun _ h9 => h9) rfl dX2_copyFrom_47 ?_
  refine lv_aload_n hx hb dX2_copyFrom_50 rfl (lv_at hl 0 rfl) ?_
  refine va_get (D := G.1) (ci := 6) (v := .ref dh4) (C := RX2) (T := TX2) (N := 5) hx hb hts uws_X2 hown hK hP 6 rfl rfl 4 (by decide) (hts _ u_946) (fun _ h9 => h9) rfl dX2_copyFrom_51 ?_
  refine w_S (own := RX2) (cs := [[cArr G oh4 8 o.2.2.2.2], [cArr G dh4 8 d.2.2.2.2]]) (rs := [[cArr G oh3 8 o.2.2.2.1], [cArr G dh3 8 u_6], [cArr G oh2 8 o.2.2.1], [cArr G dh2 8 u_4], [cArr G oh1 8 o.2.1], [cArr G dh1 8 u_2], [(dh0, .inr (6, [.int o.1, .ref dh1, .ref dh2, .ref dh3, .ref dh4]))], [(oh0, .inr (6, [.int o.1, .ref oh1, .ref oh2, .ref oh3, .ref oh4]))]]) (As := [.ref oh4, .ref dh4]) (rest := []) (c_X7_copy l G oh4 dh4 H.size 8 o.2.2.2.2 8 d.2.2.2.2 (by decide) (by decide)) ⟨hx, hb, hml, hown, hts⟩ g_X2_82 hds_X7_copy hK hST hS hP hD hA [9, 7] [0, 1, 2, 3, 4, 5, 6, 8] rfl rfl rfl ⟨Nat.le_of_ble_eq_true rfl, Nat.le_of_ble_eq_true rfl⟩ ⟨Nat.le_of_ble_eq_true rfl, Nat.le_of_ble_eq_true rfl⟩ rfl hl.1 rfl (Nat.le_of_ble_eq_true rfl) dX2_copyFrom_54 (fun u_8 H locs huu hP hD hS => ?_)
  have eu_8 := huu
  have hP : va_P G.1 vwCl (fl [[cArr G oh4 8 o.2.2.2.2], [cArr G dh4 8 u_8], [cArr G oh3 8 o.2.2.2.1], [cArr G dh3 8 u_6], [cArr G oh2 8 o.2.2.1], [cArr G dh2 8 u_4], [cArr G oh1 8 o.2.1], [cArr G dh1 8 u_2], [(dh0, .inr (6, [.int o.1, .ref dh1, .ref dh2, .ref dh3, .ref dh4]))], [(oh0, .inr (6, [.int o.1, .ref oh1, .ref oh2, .ref oh3, .ref oh4]))]]) H := hP
  have hD : va_D A (fl [[cArr G oh4 8 o.2.2.2.2], [cArr G dh4 8 u_8], [cArr G oh3 8 o.2.2.2.1], [cArr G dh3 8 u_6], [cArr G oh2 8 o.2.2.1], [cArr G dh2 8 u_4], [cArr G oh1 8 o.2.1], [cArr G dh1 8 u_2], [(dh0, .inr (6, [.int o.1, .ref dh1, .ref dh2, .ref dh3, .ref dh4]))], [(oh0, .inr (6, [.int o.1, .ref oh1, .ref oh2, .ref oh3, .ref oh4]))]]) := hD
  refine W.eq (g2 := F0 m 57 ls []) rfl ?_
  have hF : f_X2_copyFrom d o = (o.1, u_2, u_4, u_6, u_8) := by subst eu_8; exact hF
  have hP := fl_sub (cs := [[(dh0, .inr (6, [.int o.1, .ref dh1, .ref dh2, .ref dh3, .ref dh4]))], [cArr G dh1 8 u_2], [cArr G dh2 8 u_4], [cArr G dh3 8 u_6], [cArr G dh4 8 u_8], [(oh0, .inr (6, [.int o.1, .ref oh1, .ref oh2, .ref oh3, .ref oh4]))], [cArr G oh1 8 o.2.1], [cArr G oh2 8 o.2.2.1], [cArr G oh3 8 o.2.2.2.1], [cArr G oh4 8 o.2.2.2.2]]) [8, 7, 5, 3, 1, 9, 6, 4, 2, 0] rfl hP
  have hD := fl_subD (cs := [[(dh0, .inr (6, [.int o.1, .ref dh1, .ref dh2, .ref dh3, .ref dh4]))], [cArr G dh1 8 u_2], [cArr G dh2 8 u_4], [cArr G dh3 8 u_6], [cArr G dh4 8 u_8], [(oh0, .inr (6, [.int o.1, .ref oh1, .ref oh2, .ref oh3, .ref oh4]))], [cArr G oh1 8 o.2.1], [cArr G oh2 8 o.2.2.1], [cArr G oh3 8 o.2.2.2.1], [cArr G oh4 8 o.2.2.2.2]]) [8, 7, 5, 3, 1, 9, 6, 4, 2, 0] rfl rfl hD
  exact w_retV (u := (o.1, u_2, u_4, u_6, u_8)) hx hb hr hlk hS rfl hF.symm hP hD (Nat.le_of_ble_eq_true rfl) (Nat.le_of_ble_eq_true rfl) dX2_copyFrom_57
