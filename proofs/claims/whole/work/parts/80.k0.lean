theorem dL_law_264 : decode cL_law 264 = .ok (.aload_n 1, 1) := by decide +kernel
theorem dL_law_265 : decode cL_law 265 = .ok (.aload_n 0, 1) := by decide +kernel
theorem dL_law_266 : decode cL_law 266 = .ok (.iload 5, 2) := by decide +kernel
theorem dL_law_268 : decode cL_law 268 = .ok (.iconst 1, 1) := by decide +kernel
theorem dL_law_269 : decode cL_law 269 = .ok (.iadd, 1) := by decide +kernel
theorem dL_law_270 : decode cL_law 270 = .ok (.iaload, 1) := by decide +kernel
theorem dL_law_271 : decode cL_law 271 = .ok (.aload_n 0, 1) := by decide +kernel
theorem dL_law_272 : decode cL_law 272 = .ok (.iload 5, 2) := by decide +kernel
theorem dL_law_274 : decode cL_law 274 = .ok (.iconst 2, 1) := by decide +kernel
theorem dL_law_275 : decode cL_law 275 = .ok (.iadd, 1) := by decide +kernel
theorem dL_law_276 : decode cL_law 276 = .ok (.iaload, 1) := by decide +kernel
theorem dL_law_277 : decode cL_law 277 = .ok (.aload_n 0, 1) := by decide +kernel
theorem dL_law_278 : decode cL_law 278 = .ok (.iload 5, 2) := by decide +kernel
theorem dL_law_280 : decode cL_law 280 = .ok (.iconst 3, 1) := by decide +kernel
theorem dL_law_281 : decode cL_law 281 = .ok (.iadd, 1) := by decide +kernel
theorem dL_law_282 : decode cL_law 282 = .ok (.iaload, 1) := by decide +kernel
theorem dL_law_283 : decode cL_law 283 = .ok (.aload_n 0, 1) := by decide +kernel
theorem dL_law_284 : decode cL_law 284 = .ok (.iload 5, 2) := by decide +kernel
theorem dL_law_286 : decode cL_law 286 = .ok (.iconst 4, 1) := by decide +kernel
theorem dL_law_287 : decode cL_law 287 = .ok (.iadd, 1) := by decide +kernel
theorem dL_law_288 : decode cL_law 288 = .ok (.iaload, 1) := by decide +kernel
theorem dL_law_289 : decode cL_law 289 = .ok (.aload_n 3, 1) := by decide +kernel
theorem dL_law_290 : decode cL_law 290 = .ok (.invokestatic 171, 3) := by decide +kernel
theorem gh_L_171_c : Cond.codeWith yL_addDoor cL_addDoor 7 (some .int) [(0, 14, 17, 13), (0, 14, 21, 15)] ∈ UW := uw 402 (by decide +kernel) rfl
theorem u_400 : Cond.methodLink RL 171 yL_addDoor ∈ UW := uw 400 (by decide +kernel) rfl
theorem u_401 : Cond.static yL_addDoor ∈ UW := uw 401 (by decide +kernel) rfl
theorem u_64 : Cond.initialized RL ∈ UW := uw 64 (by decide +kernel) rfl
theorem gh_L_171 : GoodIn UW (va_wsS RL 171 yL_addDoor (Cond.codeWith yL_addDoor cL_addDoor 7 (some .int) [(0, 14, 17, 13), (0, 14, 21, 15)] :: UW)) := gSH u_400 u_401 u_64 gh_L_171_c
theorem hds_L_addDoor : yL_addDoor.cls ≠ "java/lang/invoke/MethodHandle" ∧ yL_addDoor.cls ≠ "java/lang/invoke/VarHandle" ∧ (parseMethodDescriptor yL_addDoor.desc).map (fun d => d.parameters.length) = some 6 := by decide +kernel
theorem dL_law_293 : decode cL_law 293 = .ok (.istore 6, 2) := by decide +kernel
theorem dL_law_295 : decode cL_law 295 = .ok (.aload_n 2, 1) := by decide +kernel
theorem dL_law_296 : decode cL_law 296 = .ok (.aload_n 0, 1) := by decide +kernel
theorem dL_law_297 : decode cL_law 297 = .ok (.iload 5, 2) := by decide +kernel
theorem dL_law_299 : decode cL_law 299 = .ok (.iconst 1, 1) := by decide +kernel
theorem dL_law_300 : decode cL_law 300 = .ok (.iadd, 1) := by decide +kernel
theorem dL_law_301 : decode cL_law 301 = .ok (.iaload, 1) := by decide +kernel
theorem dL_law_302 : decode cL_law 302 = .ok (.aload_n 0, 1) := by decide +kernel
theorem dL_law_303 : decode cL_law 303 = .ok (.iload 5, 2) := by decide +kernel
theorem dL_law_305 : decode cL_law 305 = .ok (.iconst 2, 1) := by decide +kernel
theorem dL_law_306 : decode cL_law 306 = .ok (.iadd, 1) := by decide +kernel
theorem dL_law_307 : decode cL_law 307 = .ok (.iaload, 1) := by decide +kernel
theorem dL_law_308 : decode cL_law 308 = .ok (.aload_n 0, 1) := by decide +kernel
theorem dL_law_309 : decode cL_law 309 = .ok (.iload 5, 2) := by decide +kernel
theorem dL_law_311 : decode cL_law 311 = .ok (.iconst 3, 1) := by decide +kernel
theorem dL_law_312 : decode cL_law 312 = .ok (.iadd, 1) := by decide +kernel
theorem dL_law_313 : decode cL_law 313 = .ok (.iaload, 1) := by decide +kernel
theorem dL_law_314 : decode cL_law 314 = .ok (.aload_n 0, 1) := by decide +kernel
theorem dL_law_315 : decode cL_law 315 = .ok (.iload 5, 2) := by decide +kernel
theorem dL_law_317 : decode cL_law 317 = .ok (.iconst 4, 1) := by decide +kernel
theorem dL_law_318 : decode cL_law 318 = .ok (.iadd, 1) := by decide +kernel
theorem dL_law_319 : decode cL_law 319 = .ok (.iaload, 1) := by decide +kernel
theorem dL_law_320 : decode cL_law 320 = .ok (.invokevirtual 176, 3) := by decide +kernel
theorem u_1736 : Cond.methodLink RL 176 yX10_addDoor ∈ UW := uw 1736 (by decide +kernel) rfl
theorem u_1737 : Cond.instanceMethod yX10_addDoor ∈ UW := uw 1737 (by decide +kernel) rfl
theorem u_1738 : Cond.selects RX10 yX10_addDoor yX10_addDoor ∈ UW := uw 1738 (by decide +kernel) rfl
theorem u_1739 : Cond.code yX10_addDoor cX10_addDoor 5 (some .int) ∈ UW := uw 1739 (by decide +kernel) rfl
theorem g_L_176 : GoodIn UW (wsV RL 176 RX10 yX10_addDoor (wsU yX10_addDoor cX10_addDoor 5 (some .int))) := gV u_1736 u_1737 u_1738 u_77 u_1739
theorem hdv_X10_addDoor : yX10_addDoor.cls = RX10 ∧ yX10_addDoor.cls ≠ "java/lang/invoke/MethodHandle" ∧ yX10_addDoor.cls ≠ "java/lang/invoke/VarHandle" ∧ (parseMethodDescriptor yX10_addDoor.desc).map (fun d => d.parameters.length) = some 4 := by decide +kernel
theorem dL_law_323 : decode cL_law 323 = .ok (.istore 7, 2) := by decide +kernel
theorem dL_law_325 : decode cL_law 325 = .ok (.aload_n 2, 1) := by decide +kernel
theorem dL_law_326 : decode cL_law 326 = .ok (.invokevirtual 177, 3) := by decide +kernel
theorem u_1732 : Cond.methodLink RL 177 yX10_thrown ∈ UW := uw 1732 (by decide +kernel) rfl
theorem u_1733 : Cond.instanceMethod yX10_thrown ∈ UW := uw 1733 (by decide +kernel) rfl
theorem u_1734 : Cond.selects RX10 yX10_thrown yX10_thrown ∈ UW := uw 1734 (by decide +kernel) rfl
theorem u_1735 : Cond.code yX10_thrown cX10_thrown 1 (some .int) ∈ UW := uw 1735 (by decide +kernel) rfl
theorem g_L_177 : GoodIn UW (wsV RL 177 RX10 yX10_thrown (wsU yX10_thrown cX10_thrown 1 (some .int))) := gV u_1732 u_1733 u_1734 u_77 u_1735
theorem hdv_X10_thrown : yX10_thrown.cls = RX10 ∧ yX10_thrown.cls ≠ "java/lang/invoke/MethodHandle" ∧ yX10_thrown.cls ≠ "java/lang/invoke/VarHandle" ∧ (parseMethodDescriptor yX10_thrown.desc).map (fun d => d.parameters.length) = some 0 := by decide +kernel
theorem dL_law_329 : decode cL_law 329 = .ok (.iload 6, 2) := by decide +kernel
theorem dL_law_331 : decode cL_law 331 = .ok (.if_icmp .eq 5, 3) := by decide +kernel
theorem dL_law_336 : decode cL_law 336 = .ok (.iload 6, 2) := by decide +kernel
theorem dL_law_338 : decode cL_law 338 = .ok (.ifCond .ne 15, 3) := by decide +kernel
theorem dL_law_353 : decode cL_law 353 = .ok (.goto 2751, 3) := by decide +kernel
theorem dL_law_341 : decode cL_law 341 = .ok (.aload_n 3, 1) := by decide +kernel
theorem dL_law_342 : decode cL_law 342 = .ok (.iconst 0, 1) := by decide +kernel
theorem dL_law_343 : decode cL_law 343 = .ok (.laload, 1) := by decide +kernel
theorem dL_law_344 : decode cL_law 344 = .ok (.iload 7, 2) := by decide +kernel
theorem dL_law_346 : decode cL_law 346 = .ok (.i2l, 1) := by decide +kernel
theorem dL_law_347 : decode cL_law 347 = .ok (.lcmp, 1) := by decide +kernel
theorem dL_law_348 : decode cL_law 348 = .ok (.ifCond .eq 5, 3) := by decide +kernel
def f_K0 (q : McV) (v : StV) (o : StV) (hi : HiV) (hs : Nat → StV) (pg : PrV) (tb : SbV) (nb : SbV) (d : MoV) (ow : Nat → Int64) (od : Nat → UInt64) (xs : Nat → Int32) (j : Nat) : LwT := (let u_3 : Int32 × StV × HiV × (Nat → StV) × (Nat → Int64) := (f_L_addDoor q v hi hs (xs ((nI j) + (1 : Int32)).toNatClampNeg) (xs ((nI j) + (2 : Int32)).toNatClampNeg) (xs ((nI j) + (3 : Int32)).toNatClampNeg) (xs ((nI j) + (4 : Int32)).toNatClampNeg) ow); (let u_6 : Int32 × MoV := (f_X10_addDoor d (xs ((nI j) + (1 : Int32)).toNatClampNeg) (xs ((nI j) + (2 : Int32)).toNatClampNeg) (xs ((nI j) + (3 : Int32)).toNatClampNeg) (xs ((nI j) + (4 : Int32)).toNatClampNeg)); (if (f_X10_thrown u_6.2) = u_3.1 then (if u_3.1 = (0 : Int32) then (if (lg_cmp (u_3.2.2.2.2 (0 : Int32).toNatClampNeg) u_6.1.toInt64) = (0 : Int32) then (q, u_3.2.1, o, u_3.2.2.1, u_3.2.2.2.1, pg, tb, nb, u_6.2, u_3.2.2.2.2, od) else (q, v, o, hi, hs, pg, tb, nb, d, ow, od)) else (q, u_3.2.1, o, u_3.2.2.1, u_3.2.2.2.1, pg, tb, nb, u_6.2, u_3.2.2.2.2, od)) else (q, v, o, hi, hs, pg, tb, nb, d, ow, od))))
def ok_K0 (q : McV) (v : StV) (o : StV) (hi : HiV) (hs : Nat → StV) (pg : PrV) (tb : SbV) (nb : SbV) (d : MoV) (ow : Nat → Int64) (od : Nat → UInt64) (xs : Nat → Int32) (j : Nat) : Prop := (ok_L_addDoor q v hi hs (xs ((nI j) + (1 : Int32)).toNatClampNeg) (xs ((nI j) + (2 : Int32)).toNatClampNeg) (xs ((nI j) + (3 : Int32)).toNatClampNeg) (xs ((nI j) + (4 : Int32)).toNatClampNeg) ow ∧ (let u_3 : Int32 × StV × HiV × (Nat → StV) × (Nat → Int64) := (f_L_addDoor q v hi hs (xs ((nI j) + (1 : Int32)).toNatClampNeg) (xs ((nI j) + (2 : Int32)).toNatClampNeg) (xs ((nI j) + (3 : Int32)).toNatClampNeg) (xs ((nI j) + (4 : Int32)).toNatClampNeg) ow); (ok_X10_addDoor d (xs ((nI j) + (1 : Int32)).toNatClampNeg) (xs ((nI j) + (2 : Int32)).toNatClampNeg) (xs ((nI j) + (3 : Int32)).toNatClampNeg) (xs ((nI j) + (4 : Int32)).toNatClampNeg) ∧ (let u_6 : Int32 × MoV := (f_X10_addDoor d (xs ((nI j) + (1 : Int32)).toNatClampNeg) (xs ((nI j) + (2 : Int32)).toNatClampNeg) (xs ((nI j) + (3 : Int32)).toNatClampNeg) (xs ((nI j) + (4 : Int32)).toNatClampNeg)); (if (f_X10_thrown u_6.2) = u_3.1 then (if u_3.1 = (0 : Int32) then (if (lg_cmp (u_3.2.2.2.2 (0 : Int32).toNatClampNeg) u_6.1.toInt64) = (0 : Int32) then True else False) else True) else False)))))
set_option maxHeartbeats 8000000 in
set_option maxRecDepth 100000 in
set_option linter.constructorNameAsVariable false in
theorem w_K0 {p : Program} {e : Env} {s : State} {m : MethodId} {below : List Frame} {meth : Method} {c : Code} {Q : State → Prop} (l : Launch) (hlf : l.stackTraces = false) (G : GG) (A : Nat → Prop) {b L : Nat} {xs : Nat → Int32} (hC : LCtx p s m c G A b L xs) (qh0 : Nat) (va : Nat → Nat) (oa : Nat → Nat) (hih0 : Nat) (hsh : Nat) (hsa : Nat → Nat → Nat) (pgh0 : Nat) (tbh0 : Nat) (tbh1 : Nat) (nbh0 : Nat) (nbh1 : Nat) (dh0 : Nat) (dh1 : Nat) (dh2 : Nat) (dh3 : Nat) (dh4 : Nat) (dh5 : Nat) (dh6 : Nat) (dh7 : Nat) (owh : Nat) (odh : Nat) {H : Heap} {locs : List Loc} {kc ks : Nat} {ls : Array Slot} (q : McV) (v : StV) (o : StV) (hi : HiV) (hs : Nat → StV) (pg : PrV) (tb : SbV) (nb : SbV) (d : MoV) (ow : Nat → Int64) (od : Nat → UInt64) (j : Nat) (hj : j + 6 ≤ L) (hL : L ≤ 3072) (hkc : kc + 22 ≤ 603072) (hks : ks + 4206 ≤ 7182442) (hok : ok_K0 q v o hi hs pg tb nb d ow od xs j) (hl : lv_has ls 9 [(0, .ref b), (1, .ref qh0), (2, .ref dh0), (3, .ref owh), (4, .ref odh), (5, .int (nI j))]) (hP : va_P G.1 vwCl (fl [[(qh0, .inr (11, [.ref (va 0), .ref (oa 0), .int q.1, .ref hih0, .ref pgh0, .ref nbh0, .int q.2.1, .int q.2.2]))], wSt G va v, wSt G oa o, [(hih0, .inr (7, [.int hi.1, .int hi.2, .ref hsh]))], wHs G hsh hsa hs, [(pgh0, .inr (9, [.int pg.1, .int pg.2.1, .int pg.2.2.1, .int pg.2.2.2, .ref tbh0]))], [(tbh0, .inr (1, [.ref tbh1, .int (0 : Int32), .int tb.2.2.1, .int tb.2.2.2]))], [(tbh1, .inl (G.2.1 2, tb.1, .inl tb.2.1))], [(nbh0, .inr (1, [.ref nbh1, .int (0 : Int32), .int nb.2.2.1, .int nb.2.2.2]))], [(nbh1, .inl (G.2.1 2, nb.1, .inl nb.2.1))], wMo G dh0 dh1 dh2 dh3 dh4 dh5 dh6 dh7 d, [(owh, .inl (G.2.1 3, 1, .inr (.inl ow)))], [(odh, .inl (G.2.1 4, 1, .inr (.inr (.inr (.inl od)))))]]) H) (hD : va_D A (fl [[(qh0, .inr (11, [.ref (va 0), .ref (oa 0), .int q.1, .ref hih0, .ref pgh0, .ref nbh0, .int q.2.1, .int q.2.2]))], wSt G va v, wSt G oa o, [(hih0, .inr (7, [.int hi.1, .int hi.2, .ref hsh]))], wHs G hsh hsa hs, [(pgh0, .inr (9, [.int pg.1, .int pg.2.1, .int pg.2.2.1, .int pg.2.2.2, .ref tbh0]))], [(tbh0, .inr (1, [.ref tbh1, .int (0 : Int32), .int tb.2.2.1, .int tb.2.2.2]))], [(tbh1, .inl (G.2.1 2, tb.1, .inl tb.2.1))], [(nbh0, .inr (1, [.ref nbh1, .int (0 : Int32), .int nb.2.2.1, .int nb.2.2.2]))], [(nbh1, .inl (G.2.1 2, nb.1, .inl nb.2.1))], wMo G dh0 dh1 dh2 dh3 dh4 dh5 dh6 dh7 d, [(owh, .inl (G.2.1 3, 1, .inr (.inl ow)))], [(odh, .inl (G.2.1 4, 1, .inr (.inr (.inr (.inl od)))))]])) (hS : va_S A s.heap H locs)
    (kk : ∀ (tbh1 nbh1 : Nat) (u : LwT) (H : Heap) (locs : List Loc) (ls : Array Slot), u = f_K0 q v o hi hs pg tb nb d ow od xs j → lv_has ls 9 [(0, .ref b), (1, .ref qh0), (2, .ref dh0), (3, .ref owh), (4, .ref odh), (5, .int (nI j))] → va_P G.1 vwCl (fl [[(qh0, .inr (11, [.ref (va 0), .ref (oa 0), .int u.1.1, .ref hih0, .ref pgh0, .ref nbh0, .int u.1.2.1, .int u.1.2.2]))], wSt G va u.2.1, wSt G oa u.2.2.1, [(hih0, .inr (7, [.int u.2.2.2.1.1, .int u.2.2.2.1.2, .ref hsh]))], wHs G hsh hsa u.2.2.2.2.1, [(pgh0, .inr (9, [.int u.2.2.2.2.2.1.1, .int u.2.2.2.2.2.1.2.1, .int u.2.2.2.2.2.1.2.2.1, .int u.2.2.2.2.2.1.2.2.2, .ref tbh0]))], [(tbh0, .inr (1, [.ref tbh1, .int (0 : Int32), .int u.2.2.2.2.2.2.1.2.2.1, .int u.2.2.2.2.2.2.1.2.2.2]))], [(tbh1, .inl (G.2.1 2, u.2.2.2.2.2.2.1.1, .inl u.2.2.2.2.2.2.1.2.1))], [(nbh0, .inr (1, [.ref nbh1, .int (0 : Int32), .int u.2.2.2.2.2.2.2.1.2.2.1, .int u.2.2.2.2.2.2.2.1.2.2.2]))], [(nbh1, .inl (G.2.1 2, u.2.2.2.2.2.2.2.1.1, .inl u.2.2.2.2.2.2.2.1.2.1))], wMo G dh0 dh1 dh2 dh3 dh4 dh5 dh6 dh7 u.2.2.2.2.2.2.2.2.1, [(owh, .inl (G.2.1 3, 1, .inr (.inl u.2.2.2.2.2.2.2.2.2.1)))], [(odh, .inl (G.2.1 4, 1, .inr (.inr (.inr (.inl u.2.2.2.2.2.2.2.2.2.2)))))]]) H → va_D A (fl [[(qh0, .inr (11, [.ref (va 0), .ref (oa 0), .int u.1.1, .ref hih0, .ref pgh0, .ref nbh0, .int u.1.2.1, .int u.1.2.2]))], wSt G va u.2.1, wSt G oa u.2.2.1, [(hih0, .inr (7, [.int u.2.2.2.1.1, .int u.2.2.2.1.2, .ref hsh]))], wHs G hsh hsa u.2.2.2.2.1, [(pgh0, .inr (9, [.int u.2.2.2.2.2.1.1, .int u.2.2.2.2.2.1.2.1, .int u.2.2.2.2.2.1.2.2.1, .int u.2.2.2.2.2.1.2.2.2, .ref tbh0]))], [(tbh0, .inr (1, [.ref tbh1, .int (0 : Int32), .int u.2.2.2.2.2.2.1.2.2.1, .int u.2.2.2.2.2.2.1.2.2.2]))], [(tbh1, .inl (G.2.1 2, u.2.2.2.2.2.2.1.1, .inl u.2.2.2.2.2.2.1.2.1))], [(nbh0, .inr (1, [.ref nbh1, .int (0 : Int32), .int u.2.2.2.2.2.2.2.1.2.2.1, .int u.2.2.2.2.2.2.2.1.2.2.2]))], [(nbh1, .inl (G.2.1 2, u.2.2.2.2.2.2.2.1.1, .inl u.2.2.2.2.2.2.2.1.2.1))], wMo G dh0 dh1 dh2 dh3 dh4 dh5 dh6 dh7 u.2.2.2.2.2.2.2.2.1, [(owh, .inl (G.2.1 3, 1, .inr (.inl u.2.2.2.2.2.2.2.2.2.1)))], [(odh, .inl (G.2.1 4, 1, .inr (.inr (.inr (.inl u.2.2.2.2.2.2.2.2.2.2)))))]]) → va_S A s.heap H locs → W p l e room_1 s m #[Value.ref b] below meth c H locs (kc + 22) (ks + 4206) Q (F0 m 3104 ls [])) :
    W p l e room_1 s m #[Value.ref b] below meth c H locs kc ks Q (F0 m 264 ls []) := by
  obtain ⟨hx, hb, hml, hown, hts, hK, hST, hA, hX, hbl, hbA⟩ := hC
  have hF : f_K0 q v o hi hs pg tb nb d ow od xs j = (let u_3 : Int32 × StV × HiV × (Nat → StV) × (Nat → Int64) := (f_L_addDoor q v hi hs (xs ((nI j) + (1 : Int32)).toNatClampNeg) (xs ((nI j) + (2 : Int32)).toNatClampNeg) (xs ((nI j) + (3 : Int32)).toNatClampNeg) (xs ((nI j) + (4 : Int32)).toNatClampNeg) ow); (let u_6 : Int32 × MoV := (f_X10_addDoor d (xs ((nI j) + (1 : Int32)).toNatClampNeg) (xs ((nI j) + (2 : Int32)).toNatClampNeg) (xs ((nI j) + (3 : Int32)).toNatClampNeg) (xs ((nI j) + (4 : Int32)).toNatClampNeg)); (if (f_X10_thrown u_6.2) = u_3.1 then (if u_3.1 = (0 : Int32) then (if (lg_cmp (u_3.2.2.2.2 (0 : Int32).toNatClampNeg) u_6.1.toInt64) = (0 : Int32) then (q, u_3.2.1, o, u_3.2.2.1, u_3.2.2.2.1, pg, tb, nb, u_6.2, u_3.2.2.2.2, od) else (q, v, o, hi, hs, pg, tb, nb, d, ow, od)) else (q, u_3.2.1, o, u_3.2.2.1, u_3.2.2.2.1, pg, tb, nb, u_6.2, u_3.2.2.2.2, od)) else (q, v, o, hi, hs, pg, tb, nb, d, ow, od)))) := rfl
  have hok : (ok_L_addDoor q v hi hs (xs ((nI j) + (1 : Int32)).toNatClampNeg) (xs ((nI j) + (2 : Int32)).toNatClampNeg) (xs ((nI j) + (3 : Int32)).toNatClampNeg) (xs ((nI j) + (4 : Int32)).toNatClampNeg) ow ∧ (let u_3 : Int32 × StV × HiV × (Nat → StV) × (Nat → Int64) := (f_L_addDoor q v hi hs (xs ((nI j) + (1 : Int32)).toNatClampNeg) (xs ((nI j) + (2 : Int32)).toNatClampNeg) (xs ((nI j) + (3 : Int32)).toNatClampNeg) (xs ((nI j) + (4 : Int32)).toNatClampNeg) ow); (ok_X10_addDoor d (xs ((nI j) + (1 : Int32)).toNatClampNeg) (xs ((nI j) + (2 : Int32)).toNatClampNeg) (xs ((nI j) + (3 : Int32)).toNatClampNeg) (xs ((nI j) + (4 : Int32)).toNatClampNeg) ∧ (let u_6 : Int32 × MoV := (f_X10_addDoor d (xs ((nI j) + (1 : Int32)).toNatClampNeg) (xs ((nI j) + (2 : Int32)).toNatClampNeg) (xs ((nI j) + (3 : Int32)).toNatClampNeg) (xs ((nI j) + (4 : Int32)).toNatClampNeg)); (if (f_X10_thrown u_6.2) = u_3.1 then (if u_3.1 = (0 : Int32) then (if (lg_cmp (u_3.2.2.2.2 (0 : Int32).toNatClampNeg) u_6.1.toInt64) = (0 : Int32) then True else False) else True) else False))))) := hok
  refine lv_aload_n hx hb dL_law_264 rfl (lv_at hl 1 rfl) ?_
  refine lv_aload_n hx hb dL_law_265 rfl (lv_at hl 0 rfl) ?_
  refine lv_iload hx hb dL_law_266 (lv_at hl 5 rfl) ?_
  refine lv_iconst (v := (1 : Int32)) hx hb dL_law_268 (by decide) ?_
  refine lv_iadd hx hb dL_law_269 ?_
  refine va_sld hx hb hX hbl hbA hS (lw_in (k := 1) q_1 hj hL (by decide)) dL_law_270 ?_
  refine lv_aload_n hx hb dL_law_271 rfl (lv_at hl 0 rfl) ?_
  refine lv_iload hx hb dL_law_272 (lv_at hl 5 rfl) ?_
  refine lv_iconst (v := (2 : Int32)) hx hb dL_law_274 (by decide) ?_
  refine lv_iadd hx hb dL_law_275 ?_
  refine va_sld hx hb hX hbl hbA hS (lw_in (k := 2) q_2 hj hL (by decide)) dL_law_276 ?_
  refine lv_aload_n hx hb dL_law_277 rfl (lv_at hl 0 rfl) ?_
  refine lv_iload hx hb dL_law_278 (lv_at hl 5 rfl) ?_
  refine lv_iconst (v := (3 : Int32)) hx hb dL_law_280 (by decide) ?_
  refine lv_iadd hx hb dL_law_281 ?_
  refine va_sld hx hb hX hbl hbA hS (lw_in (k := 3) q_3 hj hL (by decide)) dL_law_282 ?_
  refine lv_aload_n hx hb dL_law_283 rfl (lv_at hl 0 rfl) ?_
  refine lv_iload hx hb dL_law_284 (lv_at hl 5 rfl) ?_
  refine lv_iconst (v := (4 : Int32)) hx hb dL_law_286 (by decide) ?_
  refine lv_iadd hx hb dL_law_287 ?_
  refine va_sld hx hb hX hbl hbA hS (lw_in (k := 4) q_4 hj hL (by decide)) dL_law_288 ?_
  refine lv_aload_n hx hb dL_law_289 rfl (lv_at hl 3 rfl) ?_
  have k_1 := hok.1
  have hok := hok.2
  refine w_SH (own := RL) (cs := [[(qh0, .inr (11, [.ref (va 0), .ref (oa 0), .int q.1, .ref hih0, .ref pgh0, .ref nbh0, .int q.2.1, .int q.2.2]))], wSt G va v, [(hih0, .inr (7, [.int hi.1, .int hi.2, .ref hsh]))], wHs G hsh hsa hs, [(owh, .inl (G.2.1 3, 1, .inr (.inl ow)))]]) (rs := [wSt G oa o, [(pgh0, .inr (9, [.int pg.1, .int pg.2.1, .int pg.2.2.1, .int pg.2.2.2, .ref tbh0]))], [(tbh0, .inr (1, [.ref tbh1, .int (0 : Int32), .int tb.2.2.1, .int tb.2.2.2]))], [(tbh1, .inl (G.2.1 2, tb.1, .inl tb.2.1))], [(nbh0, .inr (1, [.ref nbh1, .int (0 : Int32), .int nb.2.2.1, .int nb.2.2.2]))], [(nbh1, .inl (G.2.1 2, nb.1, .inl nb.2.1))], wMo G dh0 dh1 dh2 dh3 dh4 dh5 dh6 dh7 d, [(odh, .inl (G.2.1 4, 1, .inr (.inr (.inr (.inl od)))))]]) (As := [.ref qh0, .int (xs ((nI j) + (1 : Int32)).toNatClampNeg), .int (xs ((nI j) + (2 : Int32)).toNatClampNeg), .int (xs ((nI j) + (3 : Int32)).toNatClampNeg), .int (xs ((nI j) + (4 : Int32)).toNatClampNeg), .ref owh]) (rest := []) (c_L_addDoor l hlf G qh0 (oa 0) pgh0 nbh0 va hih0 hsh hsa owh H.size q v hi hs (xs ((nI j) + (1 : Int32)).toNatClampNeg) (xs ((nI j) + (2 : Int32)).toNatClampNeg) (xs ((nI j) + (3 : Int32)).toNatClampNeg) (xs ((nI j) + (4 : Int32)).toNatClampNeg) ow k_1) ⟨hx, hb, hml, hown, hts⟩ gh_L_171 hds_L_addDoor hK hST hS hP hD hA [0, 1, 3, 4, 11] [2, 5, 6, 7, 8, 9, 10, 12] rfl rfl rfl ⟨Nat.le_of_ble_eq_true rfl, Nat.le_of_ble_eq_true rfl⟩ ⟨(by show _ ≤ 603072; omega), (by show _ ≤ 7182442; omega)⟩ rfl hl.1 rfl (Nat.le_of_ble_eq_true rfl) dL_law_290 (fun u_3 H locs huu hP hD hS => ?_)
  have eu_3 := huu
  have hP : va_P G.1 vwCl (fl [[(qh0, .inr (11, [.ref (va 0), .ref (oa 0), .int q.1, .ref hih0, .ref pgh0, .ref nbh0, .int q.2.1, .int q.2.2]))], wSt G va u_3.2.1, [(hih0, .inr (7, [.int u_3.2.2.1.1, .int u_3.2.2.1.2, .ref hsh]))], wHs G hsh hsa u_3.2.2.2.1, [(owh, .inl (G.2.1 3, 1, .inr (.inl u_3.2.2.2.2)))], wSt G oa o, [(pgh0, .inr (9, [.int pg.1, .int pg.2.1, .int pg.2.2.1, .int pg.2.2.2, .ref tbh0]))], [(tbh0, .inr (1, [.ref tbh1, .int (0 : Int32), .int tb.2.2.1, .int tb.2.2.2]))], [(tbh1, .inl (G.2.1 2, tb.1, .inl tb.2.1))], [(nbh0, .inr (1, [.ref nbh1, .int (0 : Int32), .int nb.2.2.1, .int nb.2.2.2]))], [(nbh1, .inl (G.2.1 2, nb.1, .inl nb.2.1))], wMo G dh0 dh1 dh2 dh3 dh4 dh5 dh6 dh7 d, [(odh, .inl (G.2.1 4, 1, .inr (.inr (.inr (.inl od)))))]]) H := hP
  have hD : va_D A (fl [[(qh0, .inr (11, [.ref (va 0), .ref (oa 0), .int q.1, .ref hih0, .ref pgh0, .ref nbh0, .int q.2.1, .int q.2.2]))], wSt G va u_3.2.1, [(hih0, .inr (7, [.int u_3.2.2.1.1, .int u_3.2.2.1.2, .ref hsh]))], wHs G hsh hsa u_3.2.2.2.1, [(owh, .inl (G.2.1 3, 1, .inr (.inl u_3.2.2.2.2)))], wSt G oa o, [(pgh0, .inr (9, [.int pg.1, .int pg.2.1, .int pg.2.2.1, .int pg.2.2.2, .ref tbh0]))], [(tbh0, .inr (1, [.ref tbh1, .int (0 : Int32), .int tb.2.2.1, .int tb.2.2.2]))], [(tbh1, .inl (G.2.1 2, tb.1, .inl tb.2.1))], [(nbh0, .inr (1, [.ref nbh1, .int (0 : Int32), .int nb.2.2.1, .int nb.2.2.2]))], [(nbh1, .inl (G.2.1 2, nb.1, .inl nb.2.1))], wMo G dh0 dh1 dh2 dh3 dh4 dh5 dh6 dh7 d, [(odh, .inl (G.2.1 4, 1, .inr (.inr (.inr (.inl od)))))]]) := hD
  refine W.eq (g2 := F0 m 293 ls [.int u_3.1]) rfl ?_
  have hF : f_K0 q v o hi hs pg tb nb d ow od xs j = (let u_6 : Int32 × MoV := (f_X10_addDoor d (xs ((nI j) + (1 : Int32)).toNatClampNeg) (xs ((nI j) + (2 : Int32)).toNatClampNeg) (xs ((nI j) + (3 : Int32)).toNatClampNeg) (xs ((nI j) + (4 : Int32)).toNatClampNeg)); (if (f_X10_thrown u_6.2) = u_3.1 then (if u_3.1 = (0 : Int32) then (if (lg_cmp (u_3.2.2.2.2 (0 : Int32).toNatClampNeg) u_6.1.toInt64) = (0 : Int32) then (q, u_3.2.1, o, u_3.2.2.1, u_3.2.2.2.1, pg, tb, nb, u_6.2, u_3.2.2.2.2, od) else (q, v, o, hi, hs, pg, tb, nb, d, ow, od)) else (q, u_3.2.1, o, u_3.2.2.1, u_3.2.2.2.1, pg, tb, nb, u_6.2, u_3.2.2.2.2, od)) else (q, v, o, hi, hs, pg, tb, nb, d, ow, od))) := by subst eu_3; exact hF
  have hok : (ok_X10_addDoor d (xs ((nI j) + (1 : Int32)).toNatClampNeg) (xs ((nI j) + (2 : Int32)).toNatClampNeg) (xs ((nI j) + (3 : Int32)).toNatClampNeg) (xs ((nI j) + (4 : Int32)).toNatClampNeg) ∧ (let u_6 : Int32 × MoV := (f_X10_addDoor d (xs ((nI j) + (1 : Int32)).toNatClampNeg) (xs ((nI j) + (2 : Int32)).toNatClampNeg) (xs ((nI j) + (3 : Int32)).toNatClampNeg) (xs ((nI j) + (4 : Int32)).toNatClampNeg)); (if (f_X10_thrown u_6.2) = u_3.1 then (if u_3.1 = (0 : Int32) then (if (lg_cmp (u_3.2.2.2.2 (0 : Int32).toNatClampNeg) u_6.1.toInt64) = (0 : Int32) then True else False) else True) else False))) := by subst eu_3; exact hok
  refine lv_istore (lv' := [(6, .int u_3.1), (0, .ref b), (1, .ref qh0), (2, .ref dh0), (3, .ref owh), (4, .ref odh), (5, .int (nI j))]) hx hb dL_law_293 hl (by decide) rfl (fun ls hl => ?_)
  refine lv_aload_n hx hb dL_law_295 rfl (lv_at hl 3 rfl) ?_
  refine lv_aload_n hx hb dL_law_296 rfl (lv_at hl 1 rfl) ?_
  refine lv_iload hx hb dL_law_297 (lv_at hl 6 rfl) ?_
  refine lv_iconst (v := (1 : Int32)) hx hb dL_law_299 (by decide) ?_
  refine lv_iadd hx hb dL_law_300 ?_
  refine va_sld hx hb hX hbl hbA hS (lw_in (k := 1) q_1 hj hL (by decide)) dL_law_301 ?_
  refine lv_aload_n hx hb dL_law_302 rfl (lv_at hl 1 rfl) ?_
  refine lv_iload hx hb dL_law_303 (lv_at hl 6 rfl) ?_
  refine lv_iconst (v := (2 : Int32)) hx hb dL_law_305 (by decide) ?_
  refine lv_iadd hx hb dL_law_306 ?_
  refine va_sld hx hb hX hbl hbA hS (lw_in (k := 2) q_2 hj hL (by decide)) dL_law_307 ?_
  refine lv_aload_n hx hb dL_law_308 rfl (lv_at hl 1 rfl) ?_
  refine lv_iload hx hb dL_law_309 (lv_at hl 6 rfl) ?_
  refine lv_iconst (v := (3 : Int32)) hx hb dL_law_311 (by decide) ?_
  refine lv_iadd hx hb dL_law_312 ?_
  refine va_sld hx hb hX hbl hbA hS (lw_in (k := 3) q_3 hj hL (by decide)) dL_law_313 ?_
  refine lv_aload_n hx hb dL_law_314 rfl (lv_at hl 1 rfl) ?_
  refine lv_iload hx hb dL_law_315 (lv_at hl 6 rfl) ?_
  refine lv_iconst (v := (4 : Int32)) hx hb dL_law_317 (by decide) ?_
  refine lv_iadd hx hb dL_law_318 ?_
  refine va_sld hx hb hX hbl hbA hS (lw_in (k := 4) q_4 hj hL (by decide)) dL_law_319 ?_
  have k_4 := hok.1
  have hok := hok.2
  refine w_V (own := RL) (cs := [wMo G dh0 dh1 dh2 dh3 dh4 dh5 dh6 dh7 d]) (rs := [[(qh0, .inr (11, [.ref (va 0), .ref (oa 0), .int q.1, .ref hih0, .ref pgh0, .ref nbh0, .int q.2.1, .int q.2.2]))], wSt G va u_3.2.1, [(hih0, .inr (7, [.int u_3.2.2.1.1, .int u_3.2.2.1.2, .ref hsh]))], wHs G hsh hsa u_3.2.2.2.1, [(owh, .inl (G.2.1 3, 1, .inr (.inl u_3.2.2.2.2)))], wSt G oa o, [(pgh0, .inr (9, [.int pg.1, .int pg.2.1, .int pg.2.2.1, .int pg.2.2.2, .ref tbh0]))], [(tbh0, .inr (1, [.ref tbh1, .int (0 : Int32), .int tb.2.2.1, .int tb.2.2.2]))], [(tbh1, .inl (G.2.1 2, tb.1, .inl tb.2.1))], [(nbh0, .inr (1, [.ref nbh1, .int (0 : Int32), .int nb.2.2.1, .int nb.2.2.2]))], [(nbh1, .inl (G.2.1 2, nb.1, .inl nb.2.1))], [(odh, .inl (G.2.1 4, 1, .inr (.inr (.inr (.inl od)))))]]) (As := [.int (xs ((nI j) + (1 : Int32)).toNatClampNeg), .int (xs ((nI j) + (2 : Int32)).toNatClampNeg), .int (xs ((nI j) + (3 : Int32)).toNatClampNeg), .int (xs ((nI j) + (4 : Int32)).toNatClampNeg)]) (rest := []) (c_X10_addDoor l G dh0 dh1 dh2 dh3 dh4 dh5 dh6 dh7 H.size d (xs ((nI j) + (1 : Int32)).toNatClampNeg) (xs ((nI j) + (2 : Int32)).toNatClampNeg) (xs ((nI j) + (3 : Int32)).toNatClampNeg) (xs ((nI j) + (4 : Int32)).toNatClampNeg) k_4) ⟨hx, hb, hml, hown, hts⟩ g_L_176 hdv_X10_addDoor hK hST hS hP hD hA [11] [0, 1, 2, 3, 4, 5, 6, 7, 8, 9, 10, 12] rfl rfl rfl (k0 := 0) rfl rfl rfl ⟨Nat.le_of_ble_eq_true rfl, Nat.le_of_ble_eq_true rfl⟩ ⟨(by show _ ≤ 603072; omega), (by show _ ≤ 7182442; omega)⟩ rfl hl.1 rfl (Nat.le_of_ble_eq_true rfl) dL_law_320 (fun u_6 H locs huu hP hD hS => ?_)
  have eu_6 := huu
  have hP : va_P G.1 vwCl (fl [wMo G dh0 dh1 dh2 dh3 dh4 dh5 dh6 dh7 u_6.2, [(qh0, .inr (11, [.ref (va 0), .ref (oa 0), .int q.1, .ref hih0, .ref pgh0, .ref nbh0, .int q.2.1, .int q.2.2]))], wSt G va u_3.2.1, [(hih0, .inr (7, [.int u_3.2.2.1.1, .int u_3.2.2.1.2, .ref hsh]))], wHs G hsh hsa u_3.2.2.2.1, [(owh, .inl (G.2.1 3, 1, .inr (.inl u_3.2.2.2.2)))], wSt G oa o, [(pgh0, .inr (9, [.int pg.1, .int pg.2.1, .int pg.2.2.1, .int pg.2.2.2, .ref tbh0]))], [(tbh0, .inr (1, [.ref tbh1, .int (0 : Int32), .int tb.2.2.1, .int tb.2.2.2]))], [(tbh1, .inl (G.2.1 2, tb.1, .inl tb.2.1))], [(nbh0, .inr (1, [.ref nbh1, .int (0 : Int32), .int nb.2.2.1, .int nb.2.2.2]))], [(nbh1, .inl (G.2.1 2, nb.1, .inl nb.2.1))], [(odh, .inl (G.2.1 4, 1, .inr (.inr (.inr (.inl od)))))]]) H := hP
  have hD : va_D A (fl [wMo G dh0 dh1 dh2 dh3 dh4 dh5 dh6 dh7 u_6.2, [(qh0, .inr (11, [.ref (va 0), .ref (oa 0), .int q.1, .ref hih0, .ref pgh0, .ref nbh0, .int q.2.1, .int q.2.2]))], wSt G va u_3.2.1, [(hih0, .inr (7, [.int u_3.2.2.1.1, .int u_3.2.2.1.2, .ref hsh]))], wHs G hsh hsa u_3.2.2.2.1, [(owh, .inl (G.2.1 3, 1, .inr (.inl u_3.2.2.2.2)))], wSt G oa o, [(pgh0, .inr (9, [.int pg.1, .int pg.2.1, .int pg.2.2.1, .int pg.2.2.2, .ref tbh0]))], [(tbh0, .inr (1, [.ref tbh1, .int (0 : Int32), .int tb.2.2.1, .int tb.2.2.2]))], [(tbh1, .inl (G.2.1 2, tb.1, .inl tb.2.1))], [(nbh0, .inr (1, [.ref nbh1, .int (0 : Int32), .int nb.2.2.1, .int nb.2.2.2]))], [(nbh1, .inl (G.2.1 2, nb.1, .inl nb.2.1))], [(odh, .inl (G.2.1 4, 1, .inr (.inr (.inr (.inl od)))))]]) := hD
  refine W.eq (g2 := F0 m 323 ls [.int u_6.1]) rfl ?_
  have hF : f_K0 q v o hi hs pg tb nb d ow od xs j = (if (f_X10_thrown u_6.2) = u_3.1 then (if u_3.1 = (0 : Int32) then (if (lg_cmp (u_3.2.2.2.2 (0 : Int32).toNatClampNeg) u_6.1.toInt64) = (0 : Int32) then (q, u_3.2.1, o, u_3.2.2.1, u_3.2.2.2.1, pg, tb, nb, u_6.2, u_3.2.2.2.2, od) else (q, v, o, hi, hs, pg, tb, nb, d, ow, od)) else (q, u_3.2.1, o, u_3.2.2.1, u_3.2.2.2.1, pg, tb, nb, u_6.2, u_3.2.2.2.2, od)) else (q, v, o, hi, hs, pg, tb, nb, d, ow, od)) := by subst eu_6; exact hF
  have hok : (if (f_X10_thrown u_6.2) = u_3.1 then (if u_3.1 = (0 : Int32) then (if (lg_cmp (u_3.2.2.2.2 (0 : Int32).toNatClampNeg) u_6.1.toInt64) = (0 : Int32) then True else False) else True) else False) := by subst eu_6; exact hok
  refine lv_istore (lv' := [(7, .int u_6.1), (6, .int u_3.1), (0, .ref b), (1, .ref qh0), (2, .ref dh0), (3, .ref owh), (4, .ref odh), (5, .int (nI j))]) hx hb dL_law_323 hl (by decide) rfl (fun ls hl => ?_)
  refine lv_aload_n hx hb dL_law_325 rfl (lv_at hl 4 rfl) ?_
  refine r_V (own := RL) (v := (some (.int (f_X10_thrown u_6.2)))) (st1 := [.int (f_X10_thrown u_6.2)]) (As := []) (rest := []) (c_X10_thrown l G dh0 dh1 dh2 dh3 dh4 dh5 dh6 dh7 u_6.2) ⟨hx, hb, hml, hown, hts⟩ g_L_177 hdv_X10_thrown hK hST hS hP [0, 1, 2, 3, 4, 5, 6, 7] rfl (k0 := 0) rfl rfl rfl ⟨Nat.le_of_ble_eq_true rfl, Nat.le_of_ble_eq_true rfl⟩ ⟨(by show _ ≤ 603072; omega), (by show _ ≤ 7182442; omega)⟩ rfl hl.1 rfl (Nat.le_of_ble_eq_true rfl) dL_law_326 rfl (fun b_7 => ?_)
  refine lv_iload hx hb dL_law_329 (lv_at hl 1 rfl) ?_
  refine lv_icmp_eq (tgt := 336) hx hb dL_law_331 (by decide) (fun c_8 => ?_) (fun c_8 => ?_)
  · have hF := hF.trans (if_pos c_8)
    have hok := Eq.mp (if_pos c_8) hok
    refine lv_iload hx hb dL_law_336 (lv_at hl 1 rfl) ?_
    refine lv_if_ne (tgt := 353) hx hb dL_law_338 (by decide) (fun c_9 => ?_) (fun c_9 => ?_)
    · have hF := hF.trans (if_neg c_9)
      have hok := Eq.mp (if_neg c_9) hok
      refine lv_goto (tgt := 3104) hx hb dL_law_353 (by decide) ?_
      have hP := fl_sub (cs := [[(qh0, .inr (11, [.ref (va 0), .ref (oa 0), .int q.1, .ref hih0, .ref pgh0, .ref nbh0, .int q.2.1, .int q.2.2]))], wSt G va u_3.2.1, wSt G oa o, [(hih0, .inr (7, [.int u_3.2.2.1.1, .int u_3.2.2.1.2, .ref hsh]))], wHs G hsh hsa u_3.2.2.2.1, [(pgh0, .inr (9, [.int pg.1, .int pg.2.1, .int pg.2.2.1, .int pg.2.2.2, .ref tbh0]))], [(tbh0, .inr (1, [.ref tbh1, .int (0 : Int32), .int tb.2.2.1, .int tb.2.2.2]))], [(tbh1, .inl (G.2.1 2, tb.1, .inl tb.2.1))], [(nbh0, .inr (1, [.ref nbh1, .int (0 : Int32), .int nb.2.2.1, .int nb.2.2.2]))], [(nbh1, .inl (G.2.1 2, nb.1, .inl nb.2.1))], wMo G dh0 dh1 dh2 dh3 dh4 dh5 dh6 dh7 u_6.2, [(owh, .inl (G.2.1 3, 1, .inr (.inl u_3.2.2.2.2)))], [(odh, .inl (G.2.1 4, 1, .inr (.inr (.inr (.inl od)))))]]) [1, 2, 6, 3, 4, 7, 8, 9, 10, 11, 0, 5, 12] rfl hP
      have hD := fl_subD (cs := [[(qh0, .inr (11, [.ref (va 0), .ref (oa 0), .int q.1, .ref hih0, .ref pgh0, .ref nbh0, .int q.2.1, .int q.2.2]))], wSt G va u_3.2.1, wSt G oa o, [(hih0, .inr (7, [.int u_3.2.2.1.1, .int u_3.2.2.1.2, .ref hsh]))], wHs G hsh hsa u_3.2.2.2.1, [(pgh0, .inr (9, [.int pg.1, .int pg.2.1, .int pg.2.2.1, .int pg.2.2.2, .ref tbh0]))], [(tbh0, .inr (1, [.ref tbh1, .int (0 : Int32), .int tb.2.2.1, .int tb.2.2.2]))], [(tbh1, .inl (G.2.1 2, tb.1, .inl tb.2.1))], [(nbh0, .inr (1, [.ref nbh1, .int (0 : Int32), .int nb.2.2.1, .int nb.2.2.2]))], [(nbh1, .inl (G.2.1 2, nb.1, .inl nb.2.1))], wMo G dh0 dh1 dh2 dh3 dh4 dh5 dh6 dh7 u_6.2, [(owh, .inl (G.2.1 3, 1, .inr (.inl u_3.2.2.2.2)))], [(odh, .inl (G.2.1 4, 1, .inr (.inr (.inr (.inl od)))))]]) [1, 2, 6, 3, 4, 7, 8, 9, 10, 11, 0, 5, 12] rfl rfl hD
      refine W.widen (k := kc + 22) (n := ks + 4206) (by omega) (by omega) ?_
      exact kk tbh1 nbh1 (q, u_3.2.1, o, u_3.2.2.1, u_3.2.2.2.1, pg, tb, nb, u_6.2, u_3.2.2.2.2, od) _ _ ls hF.symm (lv_sub hl [2, 3, 4, 5, 6, 7] rfl) hP hD hS
    · have hF := hF.trans (if_pos c_9)
      have hok := Eq.mp (if_pos c_9) hok
      refine lv_aload_n hx hb dL_law_341 rfl (lv_at hl 5 rfl) ?_
      refine lv_iconst (v := (0 : Int32)) hx hb dL_law_342 (by decide) ?_
      refine va_lald hx hb hK hP 211 3 rfl rfl (vp_in_nI (n := 0) (by decide) (by decide)) dL_law_343 ?_
      refine lv_iload hx hb dL_law_344 (lv_at hl 0 rfl) ?_
      refine lv_i2l hx hb dL_law_346 rfl ?_
      refine W.lcmp hx hb dL_law_347 ?_
      refine lv_if_eq (tgt := 353) hx hb dL_law_348 (by decide) (fun c_10 => ?_) (fun c_10 => ?_)
      · have hF := hF.trans (if_pos c_10)
        have hok := Eq.mp (if_pos c_10) hok
        refine lv_goto (tgt := 3104) hx hb dL_law_353 (by decide) ?_
        have hP := fl_sub (cs := [[(qh0, .inr (11, [.ref (va 0), .ref (oa 0), .int q.1, .ref hih0, .ref pgh0, .ref nbh0, .int q.2.1, .int q.2.2]))], wSt G va u_3.2.1, wSt G oa o, [(hih0, .inr (7, [.int u_3.2.2.1.1, .int u_3.2.2.1.2, .ref hsh]))], wHs G hsh hsa u_3.2.2.2.1, [(pgh0, .inr (9, [.int pg.1, .int pg.2.1, .int pg.2.2.1, .int pg.2.2.2, .ref tbh0]))], [(tbh0, .inr (1, [.ref tbh1, .int (0 : Int32), .int tb.2.2.1, .int tb.2.2.2]))], [(tbh1, .inl (G.2.1 2, tb.1, .inl tb.2.1))], [(nbh0, .inr (1, [.ref nbh1, .int (0 : Int32), .int nb.2.2.1, .int nb.2.2.2]))], [(nbh1, .inl (G.2.1 2, nb.1, .inl nb.2.1))], wMo G dh0 dh1 dh2 dh3 dh4 dh5 dh6 dh7 u_6.2, [(owh, .inl (G.2.1 3, 1, .inr (.inl u_3.2.2.2.2)))], [(odh, .inl (G.2.1 4, 1, .inr (.inr (.inr (.inl od)))))]]) [1, 2, 6, 3, 4, 7, 8, 9, 10, 11, 0, 5, 12] rfl hP
        have hD := fl_subD (cs := [[(qh0, .inr (11, [.ref (va 0), .ref (oa 0), .int q.1, .ref hih0, .ref pgh0, .ref nbh0, .int q.2.1, .int q.2.2]))], wSt G va u_3.2.1, wSt G oa o, [(hih0, .inr (7, [.int u_3.2.2.1.1, .int u_3.2.2.1.2, .ref hsh]))], wHs G hsh hsa u_3.2.2.2.1, [(pgh0, .inr (9, [.int pg.1, .int pg.2.1, .int pg.2.2.1, .int pg.2.2.2, .ref tbh0]))], [(tbh0, .inr (1, [.ref tbh1, .int (0 : Int32), .int tb.2.2.1, .int tb.2.2.2]))], [(tbh1, .inl (G.2.1 2, tb.1, .inl tb.2.1))], [(nbh0, .inr (1, [.ref nbh1, .int (0 : Int32), .int nb.2.2.1, .int nb.2.2.2]))], [(nbh1, .inl (G.2.1 2, nb.1, .inl nb.2.1))], wMo G dh0 dh1 dh2 dh3 dh4 dh5 dh6 dh7 u_6.2, [(owh, .inl (G.2.1 3, 1, .inr (.inl u_3.2.2.2.2)))], [(odh, .inl (G.2.1 4, 1, .inr (.inr (.inr (.inl od)))))]]) [1, 2, 6, 3, 4, 7, 8, 9, 10, 11, 0, 5, 12] rfl rfl hD
        refine W.widen (k := kc + 22) (n := ks + 4206) (by omega) (by omega) ?_
        exact kk tbh1 nbh1 (q, u_3.2.1, o, u_3.2.2.1, u_3.2.2.2.1, pg, tb, nb, u_6.2, u_3.2.2.2.2, od) _ _ ls hF.symm (lv_sub hl [2, 3, 4, 5, 6, 7] rfl) hP hD hS
      · have hF := hF.trans (if_neg c_10)
        have hok := Eq.mp (if_neg c_10) hok
        exact hok.elim
  · have hF := hF.trans (if_neg c_8)
    have hok := Eq.mp (if_neg c_8) hok
    exact hok.elim
theorem dL_law_356 : decode cL_law 356 = .ok (.aload_n 1, 1) := by decide +kernel
theorem dL_law_357 : decode cL_law 357 = .ok (.aload_n 0, 1) := by decide +kernel
theorem dL_law_358 : decode cL_law 358 = .ok (.iload 5, 2) := by decide +kernel
theorem dL_law_360 : decode cL_law 360 = .ok (.iconst 1, 1) := by decide +kernel
theorem dL_law_361 : decode cL_law 361 = .ok (.iadd, 1) := by decide +kernel
theorem dL_law_362 : decode cL_law 362 = .ok (.iaload, 1) := by decide +kernel
theorem dL_law_363 : decode cL_law 363 = .ok (.aload_n 0, 1) := by decide +kernel
theorem dL_law_364 : decode cL_law 364 = .ok (.iload 5, 2) := by decide +kernel
theorem dL_law_366 : decode cL_law 366 = .ok (.iconst 2, 1) := by decide +kernel
theorem dL_law_367 : decode cL_law 367 = .ok (.iadd, 1) := by decide +kernel
theorem dL_law_368 : decode cL_law 368 = .ok (.iaload, 1) := by decide +kernel
theorem dL_law_369 : decode cL_law 369 = .ok (.aload_n 0, 1) := by decide +kernel
theorem dL_law_370 : decode cL_law 370 = .ok (.iload 5, 2) := by decide +kernel
theorem dL_law_372 : decode cL_law 372 = .ok (.iconst 3, 1) := by decide +kernel
theorem dL_law_373 : decode cL_law 373 = .ok (.iadd, 1) := by decide +kernel
theorem dL_law_374 : decode cL_law 374 = .ok (.iaload, 1) := by decide +kernel
theorem dL_law_375 : decode cL_law 375 = .ok (.aload_n 0, 1) := by decide +kernel
theorem dL_law_376 : decode cL_law 376 = .ok (.iload 5, 2) := by decide +kernel
theorem dL_law_378 : decode cL_law 378 = .ok (.iconst 4, 1) := by decide +kernel
theorem dL_law_379 : decode cL_law 379 = .ok (.iadd, 1) := by decide +kernel
theorem dL_law_380 : decode cL_law 380 = .ok (.iaload, 1) := by decide +kernel
theorem dL_law_381 : decode cL_law 381 = .ok (.aload_n 0, 1) := by decide +kernel
theorem dL_law_382 : decode cL_law 382 = .ok (.iload 5, 2) := by decide +kernel
theorem dL_law_384 : decode cL_law 384 = .ok (.iconst 5, 1) := by decide +kernel
theorem dL_law_385 : decode cL_law 385 = .ok (.iadd, 1) := by decide +kernel
theorem dL_law_386 : decode cL_law 386 = .ok (.iaload, 1) := by decide +kernel
theorem dL_law_387 : decode cL_law 387 = .ok (.aload_n 3, 1) := by decide +kernel
theorem dL_law_388 : decode cL_law 388 = .ok (.invokestatic 180, 3) := by decide +kernel
theorem gh_L_180_c : Cond.codeWith yL_setRule cL_setRule 8 (some .int) [(0, 16, 19, 21), (0, 16, 23, 13)] ∈ UW := uw 607 (by decide +kernel) rfl
theorem u_605 : Cond.methodLink RL 180 yL_setRule ∈ UW := uw 605 (by decide +kernel) rfl
theorem u_606 : Cond.static yL_setRule ∈ UW := uw 606 (by decide +kernel) rfl
theorem gh_L_180 : GoodIn UW (va_wsS RL 180 yL_setRule (Cond.codeWith yL_setRule cL_setRule 8 (some .int) [(0, 16, 19, 21), (0, 16, 23, 13)] :: UW)) := gSH u_605 u_606 u_64 gh_L_180_c
theorem hds_L_setRule : yL_setRule.cls ≠ "java/lang/invoke/MethodHandle" ∧ yL_setRule.cls ≠ "java/lang/invoke/VarHandle" ∧ (parseMethodDescriptor yL_setRule.desc).map (fun d => d.parameters.length) = some 7 := by decide +kernel
theorem dL_law_391 : decode cL_law 391 = .ok (.istore 6, 2) := by decide +kernel
theorem dL_law_393 : decode cL_law 393 = .ok (.aload_n 2, 1) := by decide +kernel
theorem dL_law_394 : decode cL_law 394 = .ok (.aload_n 0, 1) := by decide +kernel
theorem dL_law_395 : decode cL_law 395 = .ok (.iload 5, 2) := by decide +kernel
theorem dL_law_397 : decode cL_law 397 = .ok (.iconst 1, 1) := by decide +kernel
theorem dL_law_398 : decode cL_law 398 = .ok (.iadd, 1) := by decide +kernel
theorem dL_law_399 : decode cL_law 399 = .ok (.iaload, 1) := by decide +kernel
theorem dL_law_400 : decode cL_law 400 = .ok (.aload_n 0, 1) := by decide +kernel
theorem dL_law_401 : decode cL_law 401 = .ok (.iload 5, 2) := by decide +kernel
theorem dL_law_403 : decode cL_law 403 = .ok (.iconst 2, 1) := by decide +kernel
theorem dL_law_404 : decode cL_law 404 = .ok (.iadd, 1) := by decide +kernel
theorem dL_law_405 : decode cL_law 405 = .ok (.iaload, 1) := by decide +kernel
theorem dL_law_406 : decode cL_law 406 = .ok (.aload_n 0, 1) := by decide +kernel
theorem dL_law_407 : decode cL_law 407 = .ok (.iload 5, 2) := by decide +kernel
theorem dL_law_409 : decode cL_law 409 = .ok (.iconst 3, 1) := by decide +kernel
theorem dL_law_410 : decode cL_law 410 = .ok (.iadd, 1) := by decide +kernel
theorem dL_law_411 : decode cL_law 411 = .ok (.iaload, 1) := by decide +kernel
theorem dL_law_412 : decode cL_law 412 = .ok (.aload_n 0, 1) := by decide +kernel
theorem dL_law_413 : decode cL_law 413 = .ok (.iload 5, 2) := by decide +kernel
theorem dL_law_415 : decode cL_law 415 = .ok (.iconst 4, 1) := by decide +kernel
theorem dL_law_416 : decode cL_law 416 = .ok (.iadd, 1) := by decide +kernel
theorem dL_law_417 : decode cL_law 417 = .ok (.iaload, 1) := by decide +kernel
theorem dL_law_418 : decode cL_law 418 = .ok (.aload_n 0, 1) := by decide +kernel
theorem dL_law_419 : decode cL_law 419 = .ok (.iload 5, 2) := by decide +kernel
theorem dL_law_421 : decode cL_law 421 = .ok (.iconst 5, 1) := by decide +kernel
theorem dL_law_422 : decode cL_law 422 = .ok (.iadd, 1) := by decide +kernel
theorem dL_law_423 : decode cL_law 423 = .ok (.iaload, 1) := by decide +kernel
theorem dL_law_424 : decode cL_law 424 = .ok (.invokevirtual 183, 3) := by decide +kernel
theorem u_1768 : Cond.methodLink RL 183 yX10_setRule ∈ UW := uw 1768 (by decide +kernel) rfl
theorem u_1769 : Cond.instanceMethod yX10_setRule ∈ UW := uw 1769 (by decide +kernel) rfl
theorem u_1770 : Cond.selects RX10 yX10_setRule yX10_setRule ∈ UW := uw 1770 (by decide +kernel) rfl
theorem u_1771 : Cond.code yX10_setRule cX10_setRule 7 (some .int) ∈ UW := uw 1771 (by decide +kernel) rfl
theorem g_L_183 : GoodIn UW (wsV RL 183 RX10 yX10_setRule (wsU yX10_setRule cX10_setRule 7 (some .int))) := gV u_1768 u_1769 u_1770 u_77 u_1771
theorem hdv_X10_setRule : yX10_setRule.cls = RX10 ∧ yX10_setRule.cls ≠ "java/lang/invoke/MethodHandle" ∧ yX10_setRule.cls ≠ "java/lang/invoke/VarHandle" ∧ (parseMethodDescriptor yX10_setRule.desc).map (fun d => d.parameters.length) = some 5 := by decide +kernel
theorem dL_law_427 : decode cL_law 427 = .ok (.istore 7, 2) := by decide +kernel
theorem dL_law_429 : decode cL_law 429 = .ok (.aload_n 2, 1) := by decide +kernel
theorem dL_law_430 : decode cL_law 430 = .ok (.invokevirtual 177, 3) := by decide +kernel
theorem dL_law_433 : decode cL_law 433 = .ok (.iload 6, 2) := by decide +kernel
theorem dL_law_435 : decode cL_law 435 = .ok (.if_icmp .eq 5, 3) := by decide +kernel
theorem dL_law_440 : decode cL_law 440 = .ok (.iload 6, 2) := by decide +kernel
theorem dL_law_442 : decode cL_law 442 = .ok (.ifCond .ne 15, 3) := by decide +kernel
theorem dL_law_457 : decode cL_law 457 = .ok (.goto 2647, 3) := by decide +kernel
theorem dL_law_445 : decode cL_law 445 = .ok (.aload_n 3, 1) := by decide +kernel
theorem dL_law_446 : decode cL_law 446 = .ok (.iconst 0, 1) := by decide +kernel
theorem dL_law_447 : decode cL_law 447 = .ok (.laload, 1) := by decide +kernel
theorem dL_law_448 : decode cL_law 448 = .ok (.iload 7, 2) := by decide +kernel
theorem dL_law_450 : decode cL_law 450 = .ok (.i2l, 1) := by decide +kernel
theorem dL_law_451 : decode cL_law 451 = .ok (.lcmp, 1) := by decide +kernel
theorem dL_law_452 : decode cL_law 452 = .ok (.ifCond .eq 5, 3) := by decide +kernel
def f_K1 (q : McV) (v : StV) (o : StV) (hi : HiV) (hs : Nat → StV) (pg : PrV) (tb : SbV) (nb : SbV) (d : MoV) (ow : Nat → Int64) (od : Nat → UInt64) (xs : Nat → Int32) (j : Nat) : LwT := (let u_3 : Int32 × StV × HiV × (Nat → StV) × (Nat → Int64) := (f_L_setRule q v hi hs (xs ((nI j) + (1 : Int32)).toNatClampNeg) (xs ((nI j) + (2 : Int32)).toNatClampNeg) (xs ((nI j) + (3 : Int32)).toNatClampNeg) (xs ((nI j) + (4 : Int32)).toNatClampNeg) (xs ((nI j) + (5 : Int32)).toNatClampNeg) ow); (let u_6 : Int32 × MoV := (f_X10_setRule d (xs ((nI j) + (1 : Int32)).toNatClampNeg) (xs ((nI j) + (2 : Int32)).toNatClampNeg) (xs ((nI j) + (3 : Int32)).toNatClampNeg) (xs ((nI j) + (4 : Int32)).toNatClampNeg) (xs ((nI j) + (5 : Int32)).toNatClampNeg)); (if (f_X10_thrown u_6.2) = u_3.1 then (if u_3.1 = (0 : Int32) then (if (lg_cmp (u_3.2.2.2.2 (0 : Int32).toNatClampNeg) u_6.1.toInt64) = (0 : Int32) then (q, u_3.2.1, o, u_3.2.2.1, u_3.2.2.2.1, pg, tb, nb, u_6.2, u_3.2.2.2.2, od) else (q, v, o, hi, hs, pg, tb, nb, d, ow, od)) else (q, u_3.2.1, o, u_3.2.2.1, u_3.2.2.2.1, pg, tb, nb, u_6.2, u_3.2.2.2.2, od)) else (q, v, o, hi, hs, pg, tb, nb, d, ow, od))))
def ok_K1 (q : McV) (v : StV) (o : StV) (hi : HiV) (hs : Nat → StV) (pg : PrV) (tb : SbV) (nb : SbV) (d : MoV) (ow : Nat → Int64) (od : Nat → UInt64) (xs : Nat → Int32) (j : Nat) : Prop := (ok_L_setRule q v hi hs (xs ((nI j) + (1 : Int32)).toNatClampNeg) (xs ((nI j) + (2 : Int32)).toNatClampNeg) (xs ((nI j) + (3 : Int32)).toNatClampNeg) (xs ((nI j) + (4 : Int32)).toNatClampNeg) (xs ((nI j) + (5 : Int32)).toNatClampNeg) ow ∧ (let u_3 : Int32 × StV × HiV × (Nat → StV) × (Nat → Int64) := (f_L_setRule q v hi hs (xs ((nI j) + (1 : Int32)).toNatClampNeg) (xs ((nI j) + (2 : Int32)).toNatClampNeg) (xs ((nI j) + (3 : Int32)).toNatClampNeg) (xs ((nI j) + (4 : Int32)).toNatClampNeg) (xs ((nI j) + (5 : Int32)).toNatClampNeg) ow); (ok_X10_setRule d (xs ((nI j) + (1 : Int32)).toNatClampNeg) (xs ((nI j) + (2 : Int32)).toNatClampNeg) (xs ((nI j) + (3 : Int32)).toNatClampNeg) (xs ((nI j) + (4 : Int32)).toNatClampNeg) (xs ((nI j) + (5 : Int32)).toNatClampNeg) ∧ (let u_6 : Int32 × MoV := (f_X10_setRule d (xs ((nI j) + (1 : Int32)).toNatClampNeg) (xs ((nI j) + (2 : Int32)).toNatClampNeg) (xs ((nI j) + (3 : Int32)).toNatClampNeg) (xs ((nI j) + (4 : Int32)).toNatClampNeg) (xs ((nI j) + (5 : Int32)).toNatClampNeg)); (if (f_X10_thrown u_6.2) = u_3.1 then (if u_3.1 = (0 : Int32) then (if (lg_cmp (u_3.2.2.2.2 (0 : Int32).toNatClampNeg) u_6.1.toInt64) = (0 : Int32) then True else False) else True) else False)))))
set_option maxHeartbeats 8000000 in
set_option maxRecDepth 100000 in
set_option linter.constructorNameAsVariable false in
theorem w_K1 {p : Program} {e : Env} {s : State} {m : MethodId} {below : List Frame} {meth : Method} {c : Code} {Q : State → Prop} (l : Launch) (hlf : l.stackTraces = false) (G : GG) (A : Nat → Prop) {b L : Nat} {xs : Nat → Int32} (hC : LCtx p s m c G A b L xs) (qh0 : Nat) (va : Nat → Nat) (oa : Nat → Nat) (hih0 : Nat) (hsh : Nat) (hsa : Nat → Nat → Nat) (pgh0 : Nat) (tbh0 : Nat) (tbh1 : Nat) (nbh0 : Nat) (nbh1 : Nat) (dh0 : Nat) (dh1 : Nat) (dh2 : Nat) (dh3 : Nat) (dh4 : Nat) (dh5 : Nat) (dh6 : Nat) (dh7 : Nat) (owh : Nat) (odh : Nat) {H : Heap} {locs : List Loc} {kc ks : Nat} {ls : Array Slot} (q : McV) (v : StV) (o : StV) (hi : HiV) (hs : Nat → StV) (pg : PrV) (tb : SbV) (nb : SbV) (d : MoV) (ow : Nat → Int64) (od : Nat → UInt64) (j : Nat) (hj : j + 6 ≤ L) (hL : L ≤ 3072) (hkc : kc + 22 ≤ 603072) (hks : ks + 4206 ≤ 7182442) (hok : ok_K1 q v o hi hs pg tb nb d ow od xs j) (hl : lv_has ls 9 [(0, .ref b), (1, .ref qh0), (2, .ref dh0), (3, .ref owh), (4, .ref odh), (5, .int (nI j))]) (hP : va_P G.1 vwCl (fl [[(qh0, .inr (11, [.ref (va 0), .ref (oa 0), .int q.1, .ref hih0, .ref pgh0, .ref nbh0, .int q.2.1, .int q.2.2]))], wSt G va v, wSt G oa o, [(hih0, .inr (7, [.int hi.1, .int hi.2, .ref hsh]))], wHs G hsh hsa hs, [(pgh0, .inr (9, [.int pg.1, .int pg.2.1, .int pg.2.2.1, .int pg.2.2.2, .ref tbh0]))], [(tbh0, .inr (1, [.ref tbh1, .int (0 : Int32), .int tb.2.2.1, .int tb.2.2.2]))], [(tbh1, .inl (G.2.1 2, tb.1, .inl tb.2.1))], [(nbh0, .inr (1, [.ref nbh1, .int (0 : Int32), .int nb.2.2.1, .int nb.2.2.2]))], [(nbh1, .inl (G.2.1 2, nb.1, .inl nb.2.1))], wMo G dh0 dh1 dh2 dh3 dh4 dh5 dh6 dh7 d, [(owh, .inl (G.2.1 3, 1, .inr (.inl ow)))], [(odh, .inl (G.2.1 4, 1, .inr (.inr (.inr (.inl od)))))]]) H) (hD : va_D A (fl [[(qh0, .inr (11, [.ref (va 0), .ref (oa 0), .int q.1, .ref hih0, .ref pgh0, .ref nbh0, .int q.2.1, .int q.2.2]))], wSt G va v, wSt G oa o, [(hih0, .inr (7, [.int hi.1, .int hi.2, .ref hsh]))], wHs G hsh hsa hs, [(pgh0, .inr (9, [.int pg.1, .int pg.2.1, .int pg.2.2.1, .int pg.2.2.2, .ref tbh0]))], [(tbh0, .inr (1, [.ref tbh1, .int (0 : Int32), .int tb.2.2.1, .int tb.2.2.2]))], [(tbh1, .inl (G.2.1 2, tb.1, .inl tb.2.1))], [(nbh0, .inr (1, [.ref nbh1, .int (0 : Int32), .int nb.2.2.1, .int nb.2.2.2]))], [(nbh1, .inl (G.2.1 2, nb.1, .inl nb.2.1))], wMo G dh0 dh1 dh2 dh3 dh4 dh5 dh6 dh7 d, [(owh, .inl (G.2.1 3, 1, .inr (.inl ow)))], [(odh, .inl (G.2.1 4, 1, .inr (.inr (.inr (.inl od)))))]])) (hS : va_S A s.heap H locs)
    (kk : ∀ (tbh1 nbh1 : Nat) (u : LwT) (H : Heap) (locs : List Loc) (ls : Array Slot), u = f_K1 q v o hi hs pg tb nb d ow od xs j → lv_has ls 9 [(0, .ref b), (1, .ref qh0), (2, .ref dh0), (3, .ref owh), (4, .ref odh), (5, .int (nI j))] → va_P G.1 vwCl (fl [[(qh0, .inr (11, [.ref (va 0), .ref (oa 0), .int u.1.1, .ref hih0, .ref pgh0, .ref nbh0, .int u.1.2.1, .int u.1.2.2]))], wSt G va u.2.1, wSt G oa u.2.2.1, [(hih0, .inr (7, [.int u.2.2.2.1.1, .int u.2.2.2.1.2, .ref hsh]))], wHs G hsh hsa u.2.2.2.2.1, [(pgh0, .inr (9, [.int u.2.2.2.2.2.1.1, .int u.2.2.2.2.2.1.2.1, .int u.2.2.2.2.2.1.2.2.1, .int u.2.2.2.2.2.1.2.2.2, .ref tbh0]))], [(tbh0, .inr (1, [.ref tbh1, .int (0 : Int32), .int u.2.2.2.2.2.2.1.2.2.1, .int u.2.2.2.2.2.2.1.2.2.2]))], [(tbh1, .inl (G.2.1 2, u.2.2.2.2.2.2.1.1, .inl u.2.2.2.2.2.2.1.2.1))], [(nbh0, .inr (1, [.ref nbh1, .int (0 : Int32), .int u.2.2.2.2.2.2.2.1.2.2.1, .int u.2.2.2.2.2.2.2.1.2.2.2]))], [(nbh1, .inl (G.2.1 2, u.2.2.2.2.2.2.2.1.1, .inl u.2.2.2.2.2.2.2.1.2.1))], wMo G dh0 dh1 dh2 dh3 dh4 dh5 dh6 dh7 u.2.2.2.2.2.2.2.2.1, [(owh, .inl (G.2.1 3, 1, .inr (.inl u.2.2.2.2.2.2.2.2.2.1)))], [(odh, .inl (G.2.1 4, 1, .inr (.inr (.inr (.inl u.2.2.2.2.2.2.2.2.2.2)))))]]) H → va_D A (fl [[(qh0, .inr (11, [.ref (va 0), .ref (oa 0), .int u.1.1, .ref hih0, .ref pgh0, .ref nbh0, .int u.1.2.1, .int u.1.2.2]))], wSt G va u.2.1, wSt G oa u.2.2.1, [(hih0, .inr (7, [.int u.2.2.2.1.1, .int u.2.2.2.1.2, .ref hsh]))], wHs G hsh hsa u.2.2.2.2.1, [(pgh0, .inr (9, [.int u.2.2.2.2.2.1.1, .int u.2.2.2.2.2.1.2.1, .int u.2.2.2.2.2.1.2.2.1, .int u.2.2.2.2.2.1.2.2.2, .ref tbh0]))], [(tbh0, .inr (1, [.ref tbh1, .int (0 : Int32), .int u.2.2.2.2.2.2.1.2.2.1, .int u.2.2.2.2.2.2.1.2.2.2]))], [(tbh1, .inl (G.2.1 2, u.2.2.2.2.2.2.1.1, .inl u.2.2.2.2.2.2.1.2.1))], [(nbh0, .inr (1, [.ref nbh1, .int (0 : Int32), .int u.2.2.2.2.2.2.2.1.2.2.1, .int u.2.2.2.2.2.2.2.1.2.2.2]))], [(nbh1, .inl (G.2.1 2, u.2.2.2.2.2.2.2.1.1, .inl u.2.2.2.2.2.2.2.1.2.1))], wMo G dh0 dh1 dh2 dh3 dh4 dh5 dh6 dh7 u.2.2.2.2.2.2.2.2.1, [(owh, .inl (G.2.1 3, 1, .inr (.inl u.2.2.2.2.2.2.2.2.2.1)))], [(odh, .inl (G.2.1 4, 1, .inr (.inr (.inr (.inl u.2.2.2.2.2.2.2.2.2.2)))))]]) → va_S A s.heap H locs → W p l e room_1 s m #[Value.ref b] below meth c H locs (kc + 22) (ks + 4206) Q (F0 m 3104 ls [])) :
    W p l e room_1 s m #[Value.ref b] below meth c H locs kc ks Q (F0 m 356 ls []) := by
  obtain ⟨hx, hb, hml, hown, hts, hK, hST, hA, hX, hbl, hbA⟩ := hC
  have hF : f_K1 q v o hi hs pg tb nb d ow od xs j = (let u_3 : Int32 × StV × HiV × (Nat → StV) × (Nat → Int64) := (f_L_setRule q v hi hs (xs ((nI j) + (1 : Int32)).toNatClampNeg) (xs ((nI j) + (2 : Int32)).toNatClampNeg) (xs ((nI j) + (3 : Int32)).toNatClampNeg) (xs ((nI j) + (4 : Int32)).toNatClampNeg) (xs ((nI j) + (5 : Int32)).toNatClampNeg) ow); (let u_6 : Int32 × MoV := (f_X10_setRule d (xs ((nI j) + (1 : Int32)).toNatClampNeg) (xs ((nI j) + (2 : Int32)).toNatClampNeg) (xs ((nI j) + (3 : Int32)).toNatClampNeg) (xs ((nI j) + (4 : Int32)).toNatClampNeg) (xs ((nI j) + (5 : Int32)).toNatClampNeg)); (if (f_X10_thrown u_6.2) = u_3.1 then (if u_3.1 = (0 : Int32) then (if (lg_cmp (u_3.2.2.2.2 (0 : Int32).toNatClampNeg) u_6.1.toInt64) = (0 : Int32) then (q, u_3.2.1, o, u_3.2.2.1, u_3.2.2.2.1, pg, tb, nb, u_6.2, u_3.2.2.2.2, od) else (q, v, o, hi, hs, pg, tb, nb, d, ow, od)) else (q, u_3.2.1, o, u_3.2.2.1, u_3.2.2.2.1, pg, tb, nb, u_6.2, u_3.2.2.2.2, od)) else (q, v, o, hi, hs, pg, tb, nb, d, ow, od)))) := rfl
  have hok : (ok_L_setRule q v hi hs (xs ((nI j) + (1 : Int32)).toNatClampNeg) (xs ((nI j) + (2 : Int32)).toNatClampNeg) (xs ((nI j) + (3 : Int32)).toNatClampNeg) (xs ((nI j) + (4 : Int32)).toNatClampNeg) (xs ((nI j) + (5 : Int32)).toNatClampNeg) ow ∧ (let u_3 : Int32 × StV × HiV × (Nat → StV) × (Nat → Int64) := (f_L_setRule q v hi hs (xs ((nI j) + (1 : Int32)).toNatClampNeg) (xs ((nI j) + (2 : Int32)).toNatClampNeg) (xs ((nI j) + (3 : Int32)).toNatClampNeg) (xs ((nI j) + (4 : Int32)).toNatClampNeg) (xs ((nI j) + (5 : Int32)).toNatClampNeg) ow); (ok_X10_setRule d (xs ((nI j) + (1 : Int32)).toNatClampNeg) (xs ((nI j) + (2 : Int32)).toNatClampNeg) (xs ((nI j) + (3 : Int32)).toNatClampNeg) (xs ((nI j) + (4 : Int32)).toNatClampNeg) (xs ((nI j) + (5 : Int32)).toNatClampNeg) ∧ (let u_6 : Int32 × MoV := (f_X10_setRule d (xs ((nI j) + (1 : Int32)).toNatClampNeg) (xs ((nI j) + (2 : Int32)).toNatClampNeg) (xs ((nI j) + (3 : Int32)).toNatClampNeg) (xs ((nI j) + (4 : Int32)).toNatClampNeg) (xs ((nI j) + (5 : Int32)).toNatClampNeg)); (if (f_X10_thrown u_6.2) = u_3.1 then (if u_3.1 = (0 : Int32) then (if (lg_cmp (u_3.2.2.2.2 (0 : Int32).toNatClampNeg) u_6.1.toInt64) = (0 : Int32) then True else False) else True) else False))))) := hok
  refine lv_aload_n hx hb dL_law_356 rfl (lv_at hl 1 rfl) ?_
  refine lv_aload_n hx hb dL_law_357 rfl (lv_at hl 0 rfl) ?_
  refine lv_iload hx hb dL_law_358 (lv_at hl 5 rfl) ?_
  refine lv_iconst (v := (1 : Int32)) hx hb dL_law_360 (by decide) ?_
  refine lv_iadd hx hb dL_law_361 ?_
  refine va_sld hx hb hX hbl hbA hS (lw_in (k := 1) q_1 hj hL (by decide)) dL_law_362 ?_
  refine lv_aload_n hx hb dL_law_363 rfl (lv_at hl 0 rfl) ?_
  refine lv_iload hx hb dL_law_364 (lv_at hl 5 rfl) ?_
  refine lv_iconst (v := (2 : Int32)) hx hb dL_law_366 (by decide) ?_
  refine lv_iadd hx hb dL_law_367 ?_
  refine va_sld hx hb hX hbl hbA hS (lw_in (k := 2) q_2 hj hL (by decide)) dL_law_368 ?_
  refine lv_aload_n hx hb dL_law_369 rfl (lv_at hl 0 rfl) ?_
  refine lv_iload hx hb dL_law_370 (lv_at hl 5 rfl) ?_
  refine lv_iconst (v := (3 : Int32)) hx hb dL_law_372 (by decide) ?_
  refine lv_iadd hx hb dL_law_373 ?_
  refine va_sld hx hb hX hbl hbA hS (lw_in (k := 3) q_3 hj hL (by decide)) dL_law_374 ?_
  refine lv_aload_n hx hb dL_law_375 rfl (lv_at hl 0 rfl) ?_
  refine lv_iload hx hb dL_law_376 (lv_at hl 5 rfl) ?_
  refine lv_iconst (v := (4 : Int32)) hx hb dL_law_378 (by decide) ?_
  refine lv_iadd hx hb dL_law_379 ?_
  refine va_sld hx hb hX hbl hbA hS (lw_in (k := 4) q_4 hj hL (by decide)) dL_law_380 ?_
  refine lv_aload_n hx hb dL_law_381 rfl (lv_at hl 0 rfl) ?_
  refine lv_iload hx hb dL_law_382 (lv_at hl 5 rfl) ?_
  refine lv_iconst (v := (5 : Int32)) hx hb dL_law_384 (by decide) ?_
  refine lv_iadd hx hb dL_law_385 ?_
  refine va_sld hx hb hX hbl hbA hS (lw_in (k := 5) q_5 hj hL (by decide)) dL_law_386 ?_
  refine lv_aload_n hx hb dL_law_387 rfl (lv_at hl 3 rfl) ?_
  have k_1 := hok.1
  have hok := hok.2
  refine w_SH (own := RL) (cs := [[(qh0, .inr (11, [.ref (va 0), .ref (oa 0), .int q.1, .ref hih0, .ref pgh0, .ref nbh0, .int q.2.1, .int q.2.2]))], wSt G va v, [(hih0, .inr (7, [.int hi.1, .int hi.2, .ref hsh]))], wHs G hsh hsa hs, [(owh, .inl (G.2.1 3, 1, .inr (.inl ow)))]]) (rs := [wSt G oa o, [(pgh0, .inr (9, [.int pg.1, .int pg.2.1, .int pg.2.2.1, .int pg.2.2.2, .ref tbh0]))], [(tbh0, .inr (1, [.ref tbh1, .int (0 : Int32), .int tb.2.2.1, .int tb.2.2.2]))], [(tbh1, .inl (G.2.1 2, tb.1, .inl tb.2.1))], [(nbh0, .inr (1, [.ref nbh1, .int (0 : Int32), .int nb.2.2.1, .int nb.2.2.2]))], [(nbh1, .inl (G.2.1 2, nb.1, .inl nb.2.1))], wMo G dh0 dh1 dh2 dh3 dh4 dh5 dh6 dh7 d, [(odh, .inl (G.2.1 4, 1, .inr (.inr (.inr (.inl od)))))]]) (As := [.ref qh0, .int (xs ((nI j) + (1 : Int32)).toNatClampNeg), .int (xs ((nI j) + (2 : Int32)).toNatClampNeg), .int (xs ((nI j) + (3 : Int32)).toNatClampNeg), .int (xs ((nI j) + (4 : Int32)).toNatClampNeg), .int (xs ((nI j) + (5 : Int32)).toNatClampNeg), .ref owh]) (rest := []) (c_L_setRule l hlf G qh0 (oa 0) pgh0 nbh0 va hih0 hsh hsa owh H.size q v hi hs (xs ((nI j) + (1 : Int32)).toNatClampNeg) (xs ((nI j) + (2 : Int32)).toNatClampNeg) (xs ((nI j) + (3 : Int32)).toNatClampNeg) (xs ((nI j) + (4 : Int32)).toNatClampNeg) (xs ((nI j) + (5 : Int32)).toNatClampNeg) ow k_1) ⟨hx, hb, hml, hown, hts⟩ gh_L_180 hds_L_setRule hK hST hS hP hD hA [0, 1, 3, 4, 11] [2, 5, 6, 7, 8, 9, 10, 12] rfl rfl rfl ⟨Nat.le_of_ble_eq_true rfl, Nat.le_of_ble_eq_true rfl⟩ ⟨(by show _ ≤ 603072; omega), (by show _ ≤ 7182442; omega)⟩ rfl hl.1 rfl (Nat.le_of_ble_eq_true rfl) dL_law_388 (fun u_3 H locs huu hP hD hS => ?_)
  have eu_3 := huu
  have hP : va_P G.1 vwCl (fl [[(qh0, .inr (11, [.ref (va 0), .ref (oa 0), .int q.1, .ref hih0, .ref pgh0, .ref nbh0, .int q.2.1, .int q.2.2]))], wSt G va u_3.2.1, [(hih0, .inr (7, [.int u_3.2.2.1.1, .int u_3.2.2.1.2, .ref hsh]))], wHs G hsh hsa u_3.2.2.2.1, [(owh, .inl (G.2.1 3, 1, .inr (.inl u_3.2.2.2.2)))], wSt G oa o, [(pgh0, .inr (9, [.int pg.1, .int pg.2.1, .int pg.2.2.1, .int pg.2.2.2, .ref tbh0]))], [(tbh0, .inr (1, [.ref tbh1, .int (0 : Int32), .int tb.2.2.1, .int tb.2.2.2]))], [(tbh1, .inl (G.2.1 2, tb.1, .inl tb.2.1))], [(nbh0, .inr (1, [.ref nbh1, .int (0 : Int32), .int nb.2.2.1, .int nb.2.2.2]))], [(nbh1, .inl (G.2.1 2, nb.1, .inl nb.2.1))], wMo G dh0 dh1 dh2 dh3 dh4 dh5 dh6 dh7 d, [(odh, .inl (G.2.1 4, 1, .inr (.inr (.inr (.inl od)))))]]) H := hP
  have hD : va_D A (fl [[(qh0, .inr (11, [.ref (va 0), .ref (oa 0), .int q.1, .ref hih0, .ref pgh0, .ref nbh0, .int q.2.1, .int q.2.2]))], wSt G va u_3.2.1, [(hih0, .inr (7, [.int u_3.2.2.1.1, .int u_3.2.2.1.2, .ref hsh]))], wHs G hsh hsa u_3.2.2.2.1, [(owh, .inl (G.2.1 3, 1, .inr (.inl u_3.2.2.2.2)))], wSt G oa o, [(pgh0, .inr (9, [.int pg.1, .int pg.2.1, .int pg.2.2.1, .int pg.2.2.2, .ref tbh0]))], [(tbh0, .inr (1, [.ref tbh1, .int (0 : Int32), .int tb.2.2.1, .int tb.2.2.2]))], [(tbh1, .inl (G.2.1 2, tb.1, .inl tb.2.1))], [(nbh0, .inr (1, [.ref nbh1, .int (0 : Int32), .int nb.2.2.1, .int nb.2.2.2]))], [(nbh1, .inl (G.2.1 2, nb.1, .inl nb.2.1))], wMo G dh0 dh1 dh2 dh3 dh4 dh5 dh6 dh7 d, [(odh, .inl (G.2.1 4, 1, .inr (.inr (.inr (.inl od)))))]]) := hD
  refine W.eq (g2 := F0 m 391 ls [.int u_3.1]) rfl ?_
  have hF : f_K1 q v o hi hs pg tb nb d ow od xs j = (let u_6 : Int32 × MoV := (f_X10_setRule d (xs ((nI j) + (1 : Int32)).toNatClampNeg) (xs ((nI j) + (2 : Int32)).toNatClampNeg) (xs ((nI j) + (3 : Int32)).toNatClampNeg) (xs ((nI j) + (4 : Int32)).toNatClampNeg) (xs ((nI j) + (5 : Int32)).toNatClampNeg)); (if (f_X10_thrown u_6.2) = u_3.1 then (if u_3.1 = (0 : Int32) then (if (lg_cmp (u_3.2.2.2.2 (0 : Int32).toNatClampNeg) u_6.1.toInt64) = (0 : Int32) then (q, u_3.2.1, o, u_3.2.2.1, u_3.2.2.2.1, pg, tb, nb, u_6.2, u_3.2.2.2.2, od) else (q, v, o, hi, hs, pg, tb, nb, d, ow, od)) else (q, u_3.2.1, o, u_3.2.2.1, u_3.2.2.2.1, pg, tb, nb, u_6.2, u_3.2.2.2.2, od)) else (q, v, o, hi, hs, pg, tb, nb, d, ow, od))) := by subst eu_3; exact hF
  have hok : (ok_X10_setRule d (xs ((nI j) + (1 : Int32)).toNatClampNeg) (xs ((nI j) + (2 : Int32)).toNatClampNeg) (xs ((nI j) + (3 : Int32)).toNatClampNeg) (xs ((nI j) + (4 : Int32)).toNatClampNeg) (xs ((nI j) + (5 : Int32)).toNatClampNeg) ∧ (let u_6 : Int32 × MoV := (f_X10_setRule d (xs ((nI j) + (1 : Int32)).toNatClampNeg) (xs ((nI j) + (2 : Int32)).toNatClampNeg) (xs ((nI j) + (3 : Int32)).toNatClampNeg) (xs ((nI j) + (4 : Int32)).toNatClampNeg) (xs ((nI j) + (5 : Int32)).toNatClampNeg)); (if (f_X10_thrown u_6.2) = u_3.1 then (if u_3.1 = (0 : Int32) then (if (lg_cmp (u_3.2.2.2.2 (0 : Int32).toNatClampNeg) u_6.1.toInt64) = (0 : Int32) then True else False) else True) else False))) := by subst eu_3; exact hok
  refine lv_istore (lv' := [(6, .int u_3.1), (0, .ref b), (1, .ref qh0), (2, .ref dh0), (3, .ref owh), (4, .ref odh), (5, .int (nI j))]) hx hb dL_law_391 hl (by decide) rfl (fun ls hl => ?_)
  refine lv_aload_n hx hb dL_law_393 rfl (lv_at hl 3 rfl) ?_
  refine lv_aload_n hx hb dL_law_394 rfl (lv_at hl 1 rfl) ?_
  refine lv_iload hx hb dL_law_395 (lv_at hl 6 rfl) ?_
  refine lv_iconst (v := (1 : Int32)) hx hb dL_law_397 (by decide) ?_
  refine lv_iadd hx hb dL_law_398 ?_
  refine va_sld hx hb hX hbl hbA hS (lw_in (k := 1) q_1 hj hL (by decide)) dL_law_399 ?_
  refine lv_aload_n hx hb dL_law_400 rfl (lv_at hl 1 rfl) ?_
  refine lv_iload hx hb dL_law_401 (lv_at hl 6 rfl) ?_
  refine lv_iconst (v := (2 : Int32)) hx hb dL_law_403 (by decide) ?_
  refine lv_iadd hx hb dL_law_404 ?_
  refine va_sld hx hb hX hbl hbA hS (lw_in (k := 2) q_2 hj hL (by decide)) dL_law_405 ?_
  refine lv_aload_n hx hb dL_law_406 rfl (lv_at hl 1 rfl) ?_
  refine lv_iload hx hb dL_law_407 (lv_at hl 6 rfl) ?_
  refine lv_iconst (v := (3 : Int32)) hx hb dL_law_409 (by decide) ?_
  refine lv_iadd hx hb dL_law_410 ?_
  refine va_sld hx hb hX hbl hbA hS (lw_in (k := 3) q_3 hj hL (by decide)) dL_law_411 ?_
  refine lv_aload_n hx hb dL_law_412 rfl (lv_at hl 1 rfl) ?_
  refine lv_iload hx hb dL_law_413 (lv_at hl 6 rfl) ?_
  refine lv_iconst (v := (4 : Int32)) hx hb dL_law_415 (by decide) ?_
  refine lv_iadd hx hb dL_law_416 ?_
  refine va_sld hx hb hX hbl hbA hS (lw_in (k := 4) q_4 hj hL (by decide)) dL_law_417 ?_
  refine lv_aload_n hx hb dL_law_418 rfl (lv_at hl 1 rfl) ?_
  refine lv_iload hx hb dL_law_419 (lv_at hl 6 rfl) ?_
  refine lv_iconst (v := (5 : Int32)) hx hb dL_law_421 (by decide) ?_
  refine lv_iadd hx hb dL_law_422 ?_
  refine va_sld hx hb hX hbl hbA hS (lw_in (k := 5) q_5 hj hL (by decide)) dL_law_423 ?_
  have k_4 := hok.1
  have hok := hok.2
  refine w_V (own := RL) (cs := [wMo G dh0 dh1 dh2 dh3 dh4 dh5 dh6 dh7 d]) (rs := [[(qh0, .inr (11, [.ref (va 0), .ref (oa 0), .int q.1, .ref hih0, .ref pgh0, .ref nbh0, .int q.2.1, .int q.2.2]))], wSt G va u_3.2.1, [(hih0, .inr (7, [.int u_3.2.2.1.1, .int u_3.2.2.1.2, .ref hsh]))], wHs G hsh hsa u_3.2.2.2.1, [(owh, .inl (G.2.1 3, 1, .inr (.inl u_3.2.2.2.2)))], wSt G oa o, [(pgh0, .inr (9, [.int pg.1, .int pg.2.1, .int pg.2.2.1, .int pg.2.2.2, .ref tbh0]))], [(tbh0, .inr (1, [.ref tbh1, .int (0 : Int32), .int tb.2.2.1, .int tb.2.2.2]))], [(tbh1, .inl (G.2.1 2, tb.1, .inl tb.2.1))], [(nbh0, .inr (1, [.ref nbh1, .int (0 : Int32), .int nb.2.2.1, .int nb.2.2.2]))], [(nbh1, .inl (G.2.1 2, nb.1, .inl nb.2.1))], [(odh, .inl (G.2.1 4, 1, .inr (.inr (.inr (.inl od)))))]]) (As := [.int (xs ((nI j) + (1 : Int32)).toNatClampNeg), .int (xs ((nI j) + (2 : Int32)).toNatClampNeg), .int (xs ((nI j) + (3 : Int32)).toNatClampNeg), .int (xs ((nI j) + (4 : Int32)).toNatClampNeg), .int (xs ((nI j) + (5 : Int32)).toNatClampNeg)]) (rest := []) (c_X10_setRule l G dh0 dh1 dh2 dh3 dh4 dh5 dh6 dh7 H.size d (xs ((nI j) + (1 : Int32)).toNatClampNeg) (xs ((nI j) + (2 : Int32)).toNatClampNeg) (xs ((nI j) + (3 : Int32)).toNatClampNeg) (xs ((nI j) + (4 : Int32)).toNatClampNeg) (xs ((nI j) + (5 : Int32)).toNatClampNeg) k_4) ⟨hx, hb, hml, hown, hts⟩ g_L_183 hdv_X10_setRule hK hST hS hP hD hA [11] [0, 1, 2, 3, 4, 5, 6, 7, 8, 9, 10, 12] rfl rfl rfl (k0 := 0) rfl rfl rfl ⟨Nat.le_of_ble_eq_true rfl, Nat.le_of_ble_eq_true rfl⟩ ⟨(by show _ ≤ 603072; omega), (by show _ ≤ 7182442; omega)⟩ rfl hl.1 rfl (Nat.le_of_ble_eq_true rfl) dL_law_424 (fun u_6 H locs huu hP hD hS => ?_)
  have eu_6 := huu
  have hP : va_P G.1 vwCl (fl [wMo G dh0 dh1 dh2 dh3 dh4 dh5 dh6 dh7 u_6.2, [(qh0, .inr (11, [.ref (va 0), .ref (oa 0), .int q.1, .ref hih0, .ref pgh0, .ref nbh0, .int q.2.1, .int q.2.2]))], wSt G va u_3.2.1, [(hih0, .inr (7, [.int u_3.2.2.1.1, .int u_3.2.2.1.2, .ref hsh]))], wHs G hsh hsa u_3.2.2.2.1, [(owh, .inl (G.2.1 3, 1, .inr (.inl u_3.2.2.2.2)))], wSt G oa o, [(pgh0, .inr (9, [.int pg.1, .int pg.2.1, .int pg.2.2.1, .int pg.2.2.2, .ref tbh0]))], [(tbh0, .inr (1, [.ref tbh1, .int (0 : Int32), .int tb.2.2.1, .int tb.2.2.2]))], [(tbh1, .inl (G.2.1 2, tb.1, .inl tb.2.1))], [(nbh0, .inr (1, [.ref nbh1, .int (0 : Int32), .int nb.2.2.1, .int nb.2.2.2]))], [(nbh1, .inl (G.2.1 2, nb.1, .inl nb.2.1))], [(odh, .inl (G.2.1 4, 1, .inr (.inr (.inr (.inl od)))))]]) H := hP
  have hD : va_D A (fl [wMo G dh0 dh1 dh2 dh3 dh4 dh5 dh6 dh7 u_6.2, [(qh0, .inr (11, [.ref (va 0), .ref (oa 0), .int q.1, .ref hih0, .ref pgh0, .ref nbh0, .int q.2.1, .int q.2.2]))], wSt G va u_3.2.1, [(hih0, .inr (7, [.int u_3.2.2.1.1, .int u_3.2.2.1.2, .ref hsh]))], wHs G hsh hsa u_3.2.2.2.1, [(owh, .inl (G.2.1 3, 1, .inr (.inl u_3.2.2.2.2)))], wSt G oa o, [(pgh0, .inr (9, [.int pg.1, .int pg.2.1, .int pg.2.2.1, .int pg.2.2.2, .ref tbh0]))], [(tbh0, .inr (1, [.ref tbh1, .int (0 : Int32), .int tb.2.2.1, .int tb.2.2.2]))], [(tbh1, .inl (G.2.1 2, tb.1, .inl tb.2.1))], [(nbh0, .inr (1, [.ref nbh1, .int (0 : Int32), .int nb.2.2.1, .int nb.2.2.2]))], [(nbh1, .inl (G.2.1 2, nb.1, .inl nb.2.1))], [(odh, .inl (G.2.1 4, 1, .inr (.inr (.inr (.inl od)))))]]) := hD
  refine W.eq (g2 := F0 m 427 ls [.int u_6.1]) rfl ?_
  have hF : f_K1 q v o hi hs pg tb nb d ow od xs j = (if (f_X10_thrown u_6.2) = u_3.1 then (if u_3.1 = (0 : Int32) then (if (lg_cmp (u_3.2.2.2.2 (0 : Int32).toNatClampNeg) u_6.1.toInt64) = (0 : Int32) then (q, u_3.2.1, o, u_3.2.2.1, u_3.2.2.2.1, pg, tb, nb, u_6.2, u_3.2.2.2.2, od) else (q, v, o, hi, hs, pg, tb, nb, d, ow, od)) else (q, u_3.2.1, o, u_3.2.2.1, u_3.2.2.2.1, pg, tb, nb, u_6.2, u_3.2.2.2.2, od)) else (q, v, o, hi, hs, pg, tb, nb, d, ow, od)) := by subst eu_6; exact hF
  have hok : (if (f_X10_thrown u_6.2) = u_3.1 then (if u_3.1 = (0 : Int32) then (if (lg_cmp (u_3.2.2.2.2 (0 : Int32).toNatClampNeg) u_6.1.toInt64) = (0 : Int32) then True else False) else True) else False) := by subst eu_6; exact hok
  refine lv_istore (lv' := [(7, .int u_6.1), (6, .int u_3.1), (0, .ref b), (1, .ref qh0), (2, .ref dh0), (3, .ref owh), (4, .ref odh), (5, .int (nI j))]) hx hb dL_law_427 hl (by decide) rfl (fun ls hl => ?_)
  refine lv_aload_n hx hb dL_law_429 rfl (lv_at hl 4 rfl) ?_
  refine r_V (own := RL) (v := (some (.int (f_X10_thrown u_6.2)))) (st1 := [.int (f_X10_thrown u_6.2)]) (As := []) (rest := []) (c_X10_thrown l G dh0 dh1 dh2 dh3 dh4 dh5 dh6 dh7 u_6.2) ⟨hx, hb, hml, hown, hts⟩ g_L_177 hdv_X10_thrown hK hST hS hP [0, 1, 2, 3, 4, 5, 6, 7] rfl (k0 := 0) rfl rfl rfl ⟨Nat.le_of_ble_eq_true rfl, Nat.le_of_ble_eq_true rfl⟩ ⟨(by show _ ≤ 603072; omega), (by show _ ≤ 7182442; omega)⟩ rfl hl.1 rfl (Nat.le_of_ble_eq_true rfl) dL_law_430 rfl (fun b_7 => ?_)
  refine lv_iload hx hb dL_law_433 (lv_at hl 1 rfl) ?_
  refine lv_icmp_eq (tgt := 440) hx hb dL_law_435 (by decide) (fun c_8 => ?_) (fun c_8 => ?_)
  · have hF := hF.trans (if_pos c_8)
    have hok := Eq.mp (if_pos c_8) hok
    refine lv_iload hx hb dL_law_440 (lv_at hl 1 rfl) ?_
    refine lv_if_ne (tgt := 457) hx hb dL_law_442 (by decide) (fun c_9 => ?_) (fun c_9 => ?_)
    · have hF := hF.trans (if_neg c_9)
      have hok := Eq.mp (if_neg c_9) hok
      refine lv_goto (tgt := 3104) hx hb dL_law_457 (by decide) ?_
      have hP := fl_sub (cs := [[(qh0, .inr (11, [.ref (va 0), .ref (oa 0), .int q.1, .ref hih0, .ref pgh0, .ref nbh0, .int q.2.1, .int q.2.2]))], wSt G va u_3.2.1, wSt G oa o, [(hih0, .inr (7, [.int u_3.2.2.1.1, .int u_3.2.2.1.2, .ref hsh]))], wHs G hsh hsa u_3.2.2.2.1, [(pgh0, .inr (9, [.int pg.1, .int pg.2.1, .int pg.2.2.1, .int pg.2.2.2, .ref tbh0]))], [(tbh0, .inr (1, [.ref tbh1, .int (0 : Int32), .int tb.2.2.1, .int tb.2.2.2]))], [(tbh1, .inl (G.2.1 2, tb.1, .inl tb.2.1))], [(nbh0, .inr (1, [.ref nbh1, .int (0 : Int32), .int nb.2.2.1, .int nb.2.2.2]))], [(nbh1, .inl (G.2.1 2, nb.1, .inl nb.2.1))], wMo G dh0 dh1 dh2 dh3 dh4 dh5 dh6 dh7 u_6.2, [(owh, .inl (G.2.1 3, 1, .inr (.inl u_3.2.2.2.2)))], [(odh, .inl (G.2.1 4, 1, .inr (.inr (.inr (.inl od)))))]]) [1, 2, 6, 3, 4, 7, 8, 9, 10, 11, 0, 5, 12] rfl hP
      have hD := fl_subD (cs := [[(qh0, .inr (11, [.ref (va 0), .ref (oa 0), .int q.1, .ref hih0, .ref pgh0, .ref nbh0, .int q.2.1, .int q.2.2]))], wSt G va u_3.2.1, wSt G oa o, [(hih0, .inr (7, [.int u_3.2.2.1.1, .int u_3.2.2.1.2, .ref hsh]))], wHs G hsh hsa u_3.2.2.2.1, [(pgh0, .inr (9, [.int pg.1, .int pg.2.1, .int pg.2.2.1, .int pg.2.2.2, .ref tbh0]))], [(tbh0, .inr (1, [.ref tbh1, .int (0 : Int32), .int tb.2.2.1, .int tb.2.2.2]))], [(tbh1, .inl (G.2.1 2, tb.1, .inl tb.2.1))], [(nbh0, .inr (1, [.ref nbh1, .int (0 : Int32), .int nb.2.2.1, .int nb.2.2.2]))], [(nbh1, .inl (G.2.1 2, nb.1, .inl nb.2.1))], wMo G dh0 dh1 dh2 dh3 dh4 dh5 dh6 dh7 u_6.2, [(owh, .inl (G.2.1 3, 1, .inr (.inl u_3.2.2.2.2)))], [(odh, .inl (G.2.1 4, 1, .inr (.inr (.inr (.inl od)))))]]) [1, 2, 6, 3, 4, 7, 8, 9, 10, 11, 0, 5, 12] rfl rfl hD
      refine W.widen (k := kc + 22) (n := ks + 4206) (by omega) (by omega) ?_
      exact kk tbh1 nbh1 (q, u_3.2.1, o, u_3.2.2.1, u_3.2.2.2.1, pg, tb, nb, u_6.2, u_3.2.2.2.2, od) _ _ ls hF.symm (lv_sub hl [2, 3, 4, 5, 6, 7] rfl) hP hD hS
    · have hF := hF.trans (if_pos c_9)
      have hok := Eq.mp (if_pos c_9) hok
      refine lv_aload_n hx hb dL_law_445 rfl (lv_at hl 5 rfl) ?_
      refine lv_iconst (v := (0 : Int32)) hx hb dL_law_446 (by decide) ?_
      refine va_lald hx hb hK hP 211 3 rfl rfl (vp_in_nI (n := 0) (by decide) (by decide)) dL_law_447 ?_
      refine lv_iload hx hb dL_law_448 (lv_at hl 0 rfl) ?_
      refine lv_i2l hx hb dL_law_450 rfl ?_
      refine W.lcmp hx hb dL_law_451 ?_
      refine lv_if_eq (tgt := 457) hx hb dL_law_452 (by decide) (fun c_10 => ?_) (fun c_10 => ?_)
      · have hF := hF.trans (if_pos c_10)
        have hok := Eq.mp (if_pos c_10) hok
        refine lv_goto (tgt := 3104) hx hb dL_law_457 (by decide) ?_
        have hP := fl_sub (cs := [[(qh0, .inr (11, [.ref (va 0), .ref (oa 0), .int q.1, .ref hih0, .ref pgh0, .ref nbh0, .int q.2.1, .int q.2.2]))], wSt G va u_3.2.1, wSt G oa o, [(hih0, .inr (7, [.int u_3.2.2.1.1, .int u_3.2.2.1.2, .ref hsh]))], wHs G hsh hsa u_3.2.2.2.1, [(pgh0, .inr (9, [.int pg.1, .int pg.2.1, .int pg.2.2.1, .int pg.2.2.2, .ref tbh0]))], [(tbh0, .inr (1, [.ref tbh1, .int (0 : Int32), .int tb.2.2.1, .int tb.2.2.2]))], [(tbh1, .inl (G.2.1 2, tb.1, .inl tb.2.1))], [(nbh0, .inr (1, [.ref nbh1, .int (0 : Int32), .int nb.2.2.1, .int nb.2.2.2]))], [(nbh1, .inl (G.2.1 2, nb.1, .inl nb.2.1))], wMo G dh0 dh1 dh2 dh3 dh4 dh5 dh6 dh7 u_6.2, [(owh, .inl (G.2.1 3, 1, .inr (.inl u_3.2.2.2.2)))], [(odh, .inl (G.2.1 4, 1, .inr (.inr (.inr (.inl od)))))]]) [1, 2, 6, 3, 4, 7, 8, 9, 10, 11, 0, 5, 12] rfl hP
        have hD := fl_subD (cs := [[(qh0, .inr (11, [.ref (va 0), .ref (oa 0), .int q.1, .ref hih0, .ref pgh0, .ref nbh0, .int q.2.1, .int q.2.2]))], wSt G va u_3.2.1, wSt G oa o, [(hih0, .inr (7, [.int u_3.2.2.1.1, .int u_3.2.2.1.2, .ref hsh]))], wHs G hsh hsa u_3.2.2.2.1, [(pgh0, .inr (9, [.int pg.1, .int pg.2.1, .int pg.2.2.1, .int pg.2.2.2, .ref tbh0]))], [(tbh0, .inr (1, [.ref tbh1, .int (0 : Int32), .int tb.2.2.1, .int tb.2.2.2]))], [(tbh1, .inl (G.2.1 2, tb.1, .inl tb.2.1))], [(nbh0, .inr (1, [.ref nbh1, .int (0 : Int32), .int nb.2.2.1, .int nb.2.2.2]))], [(nbh1, .inl (G.2.1 2, nb.1, .inl nb.2.1))], wMo G dh0 dh1 dh2 dh3 dh4 dh5 dh6 dh7 u_6.2, [(owh, .inl (G.2.1 3, 1, .inr (.inl u_3.2.2.2.2)))], [(odh, .inl (G.2.1 4, 1, .inr (.inr (.inr (.inl od)))))]]) [1, 2, 6, 3, 4, 7, 8, 9, 10, 11, 0, 5, 12] rfl rfl hD
        refine W.widen (k := kc + 22) (n := ks + 4206) (by omega) (by omega) ?_
        exact kk tbh1 nbh1 (q, u_3.2.1, o, u_3.2.2.1, u_3.2.2.2.1, pg, tb, nb, u_6.2, u_3.2.2.2.2, od) _ _ ls hF.symm (lv_sub hl [2, 3, 4, 5, 6, 7] rfl) hP hD hS
      · have hF := hF.trans (if_neg c_10)
        have hok := Eq.mp (if_neg c_10) hok
        exact hok.elim
  · have hF := hF.trans (if_neg c_8)
    have hok := Eq.mp (if_neg c_8) hok
    exact hok.elim
theorem dL_law_460 : decode cL_law 460 = .ok (.aload_n 1, 1) := by decide +kernel
theorem dL_law_461 : decode cL_law 461 = .ok (.aload_n 0, 1) := by decide +kernel
theorem dL_law_462 : decode cL_law 462 = .ok (.iload 5, 2) := by decide +kernel
theorem dL_law_464 : decode cL_law 464 = .ok (.iconst 1, 1) := by decide +kernel
theorem dL_law_465 : decode cL_law 465 = .ok (.iadd, 1) := by decide +kernel
theorem dL_law_466 : decode cL_law 466 = .ok (.iaload, 1) := by decide +kernel
theorem dL_law_467 : decode cL_law 467 = .ok (.aload_n 0, 1) := by decide +kernel
theorem dL_law_468 : decode cL_law 468 = .ok (.iload 5, 2) := by decide +kernel
theorem dL_law_470 : decode cL_law 470 = .ok (.iconst 2, 1) := by decide +kernel
theorem dL_law_471 : decode cL_law 471 = .ok (.iadd, 1) := by decide +kernel
theorem dL_law_472 : decode cL_law 472 = .ok (.iaload, 1) := by decide +kernel
theorem dL_law_473 : decode cL_law 473 = .ok (.aload_n 0, 1) := by decide +kernel
theorem dL_law_474 : decode cL_law 474 = .ok (.iload 5, 2) := by decide +kernel
theorem dL_law_476 : decode cL_law 476 = .ok (.iconst 3, 1) := by decide +kernel
theorem dL_law_477 : decode cL_law 477 = .ok (.iadd, 1) := by decide +kernel
theorem dL_law_478 : decode cL_law 478 = .ok (.iaload, 1) := by decide +kernel
theorem dL_law_479 : decode cL_law 479 = .ok (.ifCond .eq 7, 3) := by decide +kernel
theorem dL_law_486 : decode cL_law 486 = .ok (.iconst 0, 1) := by decide +kernel
theorem dL_law_487 : decode cL_law 487 = .ok (.aload_n 3, 1) := by decide +kernel
theorem dL_law_488 : decode cL_law 488 = .ok (.invokestatic 184, 3) := by decide +kernel
theorem gh_L_184_c : Cond.codeWith yL_addException cL_addException 6 (some .int) [(0, 12, 15, 21), (0, 12, 19, 13), (0, 12, 23, 27), (0, 12, 27, 15)] ∈ UW := uw 653 (by decide +kernel) rfl
theorem u_651 : Cond.methodLink RL 184 yL_addException ∈ UW := uw 651 (by decide +kernel) rfl
theorem u_652 : Cond.static yL_addException ∈ UW := uw 652 (by decide +kernel) rfl
theorem gh_L_184 : GoodIn UW (va_wsS RL 184 yL_addException (Cond.codeWith yL_addException cL_addException 6 (some .int) [(0, 12, 15, 21), (0, 12, 19, 13), (0, 12, 23, 27), (0, 12, 27, 15)] :: UW)) := gSH u_651 u_652 u_64 gh_L_184_c
theorem hds_L_addException : yL_addException.cls ≠ "java/lang/invoke/MethodHandle" ∧ yL_addException.cls ≠ "java/lang/invoke/VarHandle" ∧ (parseMethodDescriptor yL_addException.desc).map (fun d => d.parameters.length) = some 5 := by decide +kernel
theorem dL_law_491 : decode cL_law 491 = .ok (.istore 6, 2) := by decide +kernel
theorem dL_law_493 : decode cL_law 493 = .ok (.aload_n 2, 1) := by decide +kernel
theorem dL_law_494 : decode cL_law 494 = .ok (.aload_n 0, 1) := by decide +kernel
theorem dL_law_495 : decode cL_law 495 = .ok (.iload 5, 2) := by decide +kernel
theorem dL_law_497 : decode cL_law 497 = .ok (.iconst 1, 1) := by decide +kernel
theorem dL_law_498 : decode cL_law 498 = .ok (.iadd, 1) := by decide +kernel
theorem dL_law_499 : decode cL_law 499 = .ok (.iaload, 1) := by decide +kernel
theorem dL_law_500 : decode cL_law 500 = .ok (.aload_n 0, 1) := by decide +kernel
theorem dL_law_501 : decode cL_law 501 = .ok (.iload 5, 2) := by decide +kernel
theorem dL_law_503 : decode cL_law 503 = .ok (.iconst 2, 1) := by decide +kernel
theorem dL_law_504 : decode cL_law 504 = .ok (.iadd, 1) := by decide +kernel
theorem dL_law_505 : decode cL_law 505 = .ok (.iaload, 1) := by decide +kernel
theorem dL_law_506 : decode cL_law 506 = .ok (.aload_n 0, 1) := by decide +kernel
theorem dL_law_507 : decode cL_law 507 = .ok (.iload 5, 2) := by decide +kernel
theorem dL_law_509 : decode cL_law 509 = .ok (.iconst 3, 1) := by decide +kernel
theorem dL_law_510 : decode cL_law 510 = .ok (.iadd, 1) := by decide +kernel
theorem dL_law_511 : decode cL_law 511 = .ok (.iaload, 1) := by decide +kernel
theorem dL_law_512 : decode cL_law 512 = .ok (.ifCond .eq 7, 3) := by decide +kernel
theorem dL_law_519 : decode cL_law 519 = .ok (.iconst 0, 1) := by decide +kernel
theorem dL_law_520 : decode cL_law 520 = .ok (.invokevirtual 187, 3) := by decide +kernel
theorem u_1780 : Cond.methodLink RL 187 yX10_addException ∈ UW := uw 1780 (by decide +kernel) rfl
theorem u_1781 : Cond.instanceMethod yX10_addException ∈ UW := uw 1781 (by decide +kernel) rfl
theorem u_1782 : Cond.selects RX10 yX10_addException yX10_addException ∈ UW := uw 1782 (by decide +kernel) rfl
theorem u_1783 : Cond.code yX10_addException cX10_addException 4 (some .int) ∈ UW := uw 1783 (by decide +kernel) rfl
theorem g_L_187 : GoodIn UW (wsV RL 187 RX10 yX10_addException (wsU yX10_addException cX10_addException 4 (some .int))) := gV u_1780 u_1781 u_1782 u_77 u_1783
theorem hdv_X10_addException : yX10_addException.cls = RX10 ∧ yX10_addException.cls ≠ "java/lang/invoke/MethodHandle" ∧ yX10_addException.cls ≠ "java/lang/invoke/VarHandle" ∧ (parseMethodDescriptor yX10_addException.desc).map (fun d => d.parameters.length) = some 3 := by decide +kernel
theorem dL_law_523 : decode cL_law 523 = .ok (.istore 7, 2) := by decide +kernel
theorem dL_law_525 : decode cL_law 525 = .ok (.aload_n 2, 1) := by decide +kernel
theorem dL_law_526 : decode cL_law 526 = .ok (.invokevirtual 177, 3) := by decide +kernel
theorem dL_law_529 : decode cL_law 529 = .ok (.iload 6, 2) := by decide +kernel
theorem dL_law_531 : decode cL_law 531 = .ok (.if_icmp .eq 5, 3) := by decide +kernel
theorem dL_law_536 : decode cL_law 536 = .ok (.iload 6, 2) := by decide +kernel
theorem dL_law_538 : decode cL_law 538 = .ok (.ifCond .ne 15, 3) := by decide +kernel
theorem dL_law_553 : decode cL_law 553 = .ok (.goto 2551, 3) := by decide +kernel
theorem dL_law_541 : decode cL_law 541 = .ok (.aload_n 3, 1) := by decide +kernel
theorem dL_law_542 : decode cL_law 542 = .ok (.iconst 0, 1) := by decide +kernel
theorem dL_law_543 : decode cL_law 543 = .ok (.laload, 1) := by decide +kernel
theorem dL_law_544 : decode cL_law 544 = .ok (.iload 7, 2) := by decide +kernel
theorem dL_law_546 : decode cL_law 546 = .ok (.i2l, 1) := by decide +kernel
theorem dL_law_547 : decode cL_law 547 = .ok (.lcmp, 1) := by decide +kernel
theorem dL_law_548 : decode cL_law 548 = .ok (.ifCond .eq 5, 3) := by decide +kernel
theorem dL_law_482 : decode cL_law 482 = .ok (.iconst 1, 1) := by decide +kernel
theorem dL_law_483 : decode cL_law 483 = .ok (.goto 4, 3) := by decide +kernel
theorem dL_law_515 : decode cL_law 515 = .ok (.iconst 1, 1) := by decide +kernel
theorem dL_law_516 : decode cL_law 516 = .ok (.goto 4, 3) := by decide +kernel
def f_K2 (q : McV) (v : StV) (o : StV) (hi : HiV) (hs : Nat → StV) (pg : PrV) (tb : SbV) (nb : SbV) (d : MoV) (ow : Nat → Int64) (od : Nat → UInt64) (xs : Nat → Int32) (j : Nat) : LwT := (if (xs ((nI j) + (3 : Int32)).toNatClampNeg) = (0 : Int32) then (let u_4 : Int32 × StV × HiV × (Nat → StV) × (Nat → Int64) := (f_L_addException q v hi hs (xs ((nI j) + (1 : Int32)).toNatClampNeg) (xs ((nI j) + (2 : Int32)).toNatClampNeg) (0 : Int32) ow); (let u_8 : Int32 × MoV := (f_X10_addException d (xs ((nI j) + (1 : Int32)).toNatClampNeg) (xs ((nI j) + (2 : Int32)).toNatClampNeg) (0 : Int32)); (if (f_X10_thrown u_8.2) = u_4.1 then (if u_4.1 = (0 : Int32) then (if (lg_cmp (u_4.2.2.2.2 (0 : Int32).toNatClampNeg) u_8.1.toInt64) = (0 : Int32) then (q, u_4.2.1, o, u_4.2.2.1, u_4.2.2.2.1, pg, tb, nb, u_8.2, u_4.2.2.2.2, od) else (q, v, o, hi, hs, pg, tb, nb, d, ow, od)) else (q, u_4.2.1, o, u_4.2.2.1, u_4.2.2.2.1, pg, tb, nb, u_8.2, u_4.2.2.2.2, od)) else (q, v, o, hi, hs, pg, tb, nb, d, ow, od)))) else (let u_15 : Int32 × StV × HiV × (Nat → StV) × (Nat → Int64) := (f_L_addException q v hi hs (xs ((nI j) + (1 : Int32)).toNatClampNeg) (xs ((nI j) + (2 : Int32)).toNatClampNeg) (1 : Int32) ow); (let u_19 : Int32 × MoV := (f_X10_addException d (xs ((nI j) + (1 : Int32)).toNatClampNeg) (xs ((nI j) + (2 : Int32)).toNatClampNeg) (1 : Int32)); (if (f_X10_thrown u_19.2) = u_15.1 then (if u_15.1 = (0 : Int32) then (if (lg_cmp (u_15.2.2.2.2 (0 : Int32).toNatClampNeg) u_19.1.toInt64) = (0 : Int32) then (q, u_15.2.1, o, u_15.2.2.1, u_15.2.2.2.1, pg, tb, nb, u_19.2, u_15.2.2.2.2, od) else (q, v, o, hi, hs, pg, tb, nb, d, ow, od)) else (q, u_15.2.1, o, u_15.2.2.1, u_15.2.2.2.1, pg, tb, nb, u_19.2, u_15.2.2.2.2, od)) else (q, v, o, hi, hs, pg, tb, nb, d, ow, od)))))
def ok_K2 (q : McV) (v : StV) (o : StV) (hi : HiV) (hs : Nat → StV) (pg : PrV) (tb : SbV) (nb : SbV) (d : MoV) (ow : Nat → Int64) (od : Nat → UInt64) (xs : Nat → Int32) (j : Nat) : Prop := (if (xs ((nI j) + (3 : Int32)).toNatClampNeg) = (0 : Int32) then (ok_L_addException q v hi hs (xs ((nI j) + (1 : Int32)).toNatClampNeg) (xs ((nI j) + (2 : Int32)).toNatClampNeg) (0 : Int32) ow ∧ (let u_4 : Int32 × StV × HiV × (Nat → StV) × (Nat → Int64) := (f_L_addException q v hi hs (xs ((nI j) + (1 : Int32)).toNatClampNeg) (xs ((nI j) + (2 : Int32)).toNatClampNeg) (0 : Int32) ow); (ok_X10_addException d (xs ((nI j) + (1 : Int32)).toNatClampNeg) (xs ((nI j) + (2 : Int32)).toNatClampNeg) (0 : Int32) ∧ (let u_8 : Int32 × MoV := (f_X10_addException d (xs ((nI j) + (1 : Int32)).toNatClampNeg) (xs ((nI j) + (2 : Int32)).toNatClampNeg) (0 : Int32)); (if (f_X10_thrown u_8.2) = u_4.1 then (if u_4.1 = (0 : Int32) then (if (lg_cmp (u_4.2.2.2.2 (0 : Int32).toNatClampNeg) u_8.1.toInt64) = (0 : Int32) then True else False) else True) else False))))) else (ok_L_addException q v hi hs (xs ((nI j) + (1 : Int32)).toNatClampNeg) (xs ((nI j) + (2 : Int32)).toNatClampNeg) (1 : Int32) ow ∧ (let u_15 : Int32 × StV × HiV × (Nat → StV) × (Nat → Int64) := (f_L_addException q v hi hs (xs ((nI j) + (1 : Int32)).toNatClampNeg) (xs ((nI j) + (2 : Int32)).toNatClampNeg) (1 : Int32) ow); (ok_X10_addException d (xs ((nI j) + (1 : Int32)).toNatClampNeg) (xs ((nI j) + (2 : Int32)).toNatClampNeg) (1 : Int32) ∧ (let u_19 : Int32 × MoV := (f_X10_addException d (xs ((nI j) + (1 : Int32)).toNatClampNeg) (xs ((nI j) + (2 : Int32)).toNatClampNeg) (1 : Int32)); (if (f_X10_thrown u_19.2) = u_15.1 then (if u_15.1 = (0 : Int32) then (if (lg_cmp (u_15.2.2.2.2 (0 : Int32).toNatClampNeg) u_19.1.toInt64) = (0 : Int32) then True else False) else True) else False))))))
set_option maxHeartbeats 8000000 in
set_option maxRecDepth 100000 in
set_option linter.constructorNameAsVariable false in
theorem w_K2 {p : Program} {e : Env} {s : State} {m : MethodId} {below : List Frame} {meth : Method} {c : Code} {Q : State → Prop} (l : Launch) (hlf : l.stackTraces = false) (G : GG) (A : Nat → Prop) {b L : Nat} {xs : Nat → Int32} (hC : LCtx p s m c G A b L xs) (qh0 : Nat) (va : Nat → Nat) (oa : Nat → Nat) (hih0 : Nat) (hsh : Nat) (hsa : Nat → Nat → Nat) (pgh0 : Nat) (tbh0 : Nat) (tbh1 : Nat) (nbh0 : Nat) (nbh1 : Nat) (dh0 : Nat) (dh1 : Nat) (dh2 : Nat) (dh3 : Nat) (dh4 : Nat) (dh5 : Nat) (dh6 : Nat) (dh7 : Nat) (owh : Nat) (odh : Nat) {H : Heap} {locs : List Loc} {kc ks : Nat} {ls : Array Slot} (q : McV) (v : StV) (o : StV) (hi : HiV) (hs : Nat → StV) (pg : PrV) (tb : SbV) (nb : SbV) (d : MoV) (ow : Nat → Int64) (od : Nat → UInt64) (j : Nat) (hj : j + 6 ≤ L) (hL : L ≤ 3072) (hkc : kc + 22 ≤ 603072) (hks : ks + 4206 ≤ 7182442) (hok : ok_K2 q v o hi hs pg tb nb d ow od xs j) (hl : lv_has ls 9 [(0, .ref b), (1, .ref qh0), (2, .ref dh0), (3, .ref owh), (4, .ref odh), (5, .int (nI j))]) (hP : va_P G.1 vwCl (fl [[(qh0, .inr (11, [.ref (va 0), .ref (oa 0), .int q.1, .ref hih0, .ref pgh0, .ref nbh0, .int q.2.1, .int q.2.2]))], wSt G va v, wSt G oa o, [(hih0, .inr (7, [.int hi.1, .int hi.2, .ref hsh]))], wHs G hsh hsa hs, [(pgh0, .inr (9, [.int pg.1, .int pg.2.1, .int pg.2.2.1, .int pg.2.2.2, .ref tbh0]))], [(tbh0, .inr (1, [.ref tbh1, .int (0 : Int32), .int tb.2.2.1, .int tb.2.2.2]))], [(tbh1, .inl (G.2.1 2, tb.1, .inl tb.2.1))], [(nbh0, .inr (1, [.ref nbh1, .int (0 : Int32), .int nb.2.2.1, .int nb.2.2.2]))], [(nbh1, .inl (G.2.1 2, nb.1, .inl nb.2.1))], wMo G dh0 dh1 dh2 dh3 dh4 dh5 dh6 dh7 d, [(owh, .inl (G.2.1 3, 1, .inr (.inl ow)))], [(odh, .inl (G.2.1 4, 1, .inr (.inr (.inr (.inl od)))))]]) H) (hD : va_D A (fl [[(qh0, .inr (11, [.ref (va 0), .ref (oa 0), .int q.1, .ref hih0, .ref pgh0, .ref nbh0, .int q.2.1, .int q.2.2]))], wSt G va v, wSt G oa o, [(hih0, .inr (7, [.int hi.1, .int hi.2, .ref hsh]))], wHs G hsh hsa hs, [(pgh0, .inr (9, [.int pg.1, .int pg.2.1, .int pg.2.2.1, .int pg.2.2.2, .ref tbh0]))], [(tbh0, .inr (1, [.ref tbh1, .int (0 : Int32), .int tb.2.2.1, .int tb.2.2.2]))], [(tbh1, .inl (G.2.1 2, tb.1, .inl tb.2.1))], [(nbh0, .inr (1, [.ref nbh1, .int (0 : Int32), .int nb.2.2.1, .int nb.2.2.2]))], [(nbh1, .inl (G.2.1 2, nb.1, .inl nb.2.1))], wMo G dh0 dh1 dh2 dh3 dh4 dh5 dh6 dh7 d, [(owh, .inl (G.2.1 3, 1, .inr (.inl ow)))], [(odh, .inl (G.2.1 4, 1, .inr (.inr (.inr (.inl od)))))]])) (hS : va_S A s.heap H locs)
    (kk : ∀ (tbh1 nbh1 : Nat) (u : LwT) (H : Heap) (locs : List Loc) (ls : Array Slot), u = f_K2 q v o hi hs pg tb nb d ow od xs j → lv_has ls 9 [(0, .ref b), (1, .ref qh0), (2, .ref dh0), (3, .ref owh), (4, .ref odh), (5, .int (nI j))] → va_P G.1 vwCl (fl [[(qh0, .inr (11, [.ref (va 0), .ref (oa 0), .int u.1.1, .ref hih0, .ref pgh0, .ref nbh0, .int u.1.2.1, .int u.1.2.2]))], wSt G va u.2.1, wSt G oa u.2.2.1, [(hih0, .inr (7, [.int u.2.2.2.1.1, .int u.2.2.2.1.2, .ref hsh]))], wHs G hsh hsa u.2.2.2.2.1, [(pgh0, .inr (9, [.int u.2.2.2.2.2.1.1, .int u.2.2.2.2.2.1.2.1, .int u.2.2.2.2.2.1.2.2.1, .int u.2.2.2.2.2.1.2.2.2, .ref tbh0]))], [(tbh0, .inr (1, [.ref tbh1, .int (0 : Int32), .int u.2.2.2.2.2.2.1.2.2.1, .int u.2.2.2.2.2.2.1.2.2.2]))], [(tbh1, .inl (G.2.1 2, u.2.2.2.2.2.2.1.1, .inl u.2.2.2.2.2.2.1.2.1))], [(nbh0, .inr (1, [.ref nbh1, .int (0 : Int32), .int u.2.2.2.2.2.2.2.1.2.2.1, .int u.2.2.2.2.2.2.2.1.2.2.2]))], [(nbh1, .inl (G.2.1 2, u.2.2.2.2.2.2.2.1.1, .inl u.2.2.2.2.2.2.2.1.2.1))], wMo G dh0 dh1 dh2 dh3 dh4 dh5 dh6 dh7 u.2.2.2.2.2.2.2.2.1, [(owh, .inl (G.2.1 3, 1, .inr (.inl u.2.2.2.2.2.2.2.2.2.1)))], [(odh, .inl (G.2.1 4, 1, .inr (.inr (.inr (.inl u.2.2.2.2.2.2.2.2.2.2)))))]]) H → va_D A (fl [[(qh0, .inr (11, [.ref (va 0), .ref (oa 0), .int u.1.1, .ref hih0, .ref pgh0, .ref nbh0, .int u.1.2.1, .int u.1.2.2]))], wSt G va u.2.1, wSt G oa u.2.2.1, [(hih0, .inr (7, [.int u.2.2.2.1.1, .int u.2.2.2.1.2, .ref hsh]))], wHs G hsh hsa u.2.2.2.2.1, [(pgh0, .inr (9, [.int u.2.2.2.2.2.1.1, .int u.2.2.2.2.2.1.2.1, .int u.2.2.2.2.2.1.2.2.1, .int u.2.2.2.2.2.1.2.2.2, .ref tbh0]))], [(tbh0, .inr (1, [.ref tbh1, .int (0 : Int32), .int u.2.2.2.2.2.2.1.2.2.1, .int u.2.2.2.2.2.2.1.2.2.2]))], [(tbh1, .inl (G.2.1 2, u.2.2.2.2.2.2.1.1, .inl u.2.2.2.2.2.2.1.2.1))], [(nbh0, .inr (1, [.ref nbh1, .int (0 : Int32), .int u.2.2.2.2.2.2.2.1.2.2.1, .int u.2.2.2.2.2.2.2.1.2.2.2]))], [(nbh1, .inl (G.2.1 2, u.2.2.2.2.2.2.2.1.1, .inl u.2.2.2.2.2.2.2.1.2.1))], wMo G dh0 dh1 dh2 dh3 dh4 dh5 dh6 dh7 u.2.2.2.2.2.2.2.2.1, [(owh, .inl (G.2.1 3, 1, .inr (.inl u.2.2.2.2.2.2.2.2.2.1)))], [(odh, .inl (G.2.1 4, 1, .inr (.inr (.inr (.inl u.2.2.2.2.2.2.2.2.2.2)))))]]) → va_S A s.heap H locs → W p l e room_1 s m #[Value.ref b] below meth c H locs (kc + 22) (ks + 4206) Q (F0 m 3104 ls [])) :
    W p l e room_1 s m #[Value.ref b] below meth c H locs kc ks Q (F0 m 460 ls []) := by
  obtain ⟨hx, hb, hml, hown, hts, hK, hST, hA, hX, hbl, hbA⟩ := hC
  have hF : f_K2 q v o hi hs pg tb nb d ow od xs j = (if (xs ((nI j) + (3 : Int32)).toNatClampNeg) = (0 : Int32) then (let u_4 : Int32 × StV × HiV × (Nat → StV) × (Nat → Int64) := (f_L_addException q v hi hs (xs ((nI j) + (1 : Int32)).toNatClampNeg) (xs ((nI j) + (2 : Int32)).toNatClampNeg) (0 : Int32) ow); (let u_8 : Int32 × MoV := (f_X10_addException d (xs ((nI j) + (1 : Int32)).toNatClampNeg) (xs ((nI j) + (2 : Int32)).toNatClampNeg) (0 : Int32)); (if (f_X10_thrown u_8.2) = u_4.1 then (if u_4.1 = (0 : Int32) then (if (lg_cmp (u_4.2.2.2.2 (0 : Int32).toNatClampNeg) u_8.1.toInt64) = (0 : Int32) then (q, u_4.2.1, o, u_4.2.2.1, u_4.2.2.2.1, pg, tb, nb, u_8.2, u_4.2.2.2.2, od) else (q, v, o, hi, hs, pg, tb, nb, d, ow, od)) else (q, u_4.2.1, o, u_4.2.2.1, u_4.2.2.2.1, pg, tb, nb, u_8.2, u_4.2.2.2.2, od)) else (q, v, o, hi, hs, pg, tb, nb, d, ow, od)))) else (let u_15 : Int32 × StV × HiV × (Nat → StV) × (Nat → Int64) := (f_L_addException q v hi hs (xs ((nI j) + (1 : Int32)).toNatClampNeg) (xs ((nI j) + (2 : Int32)).toNatClampNeg) (1 : Int32) ow); (let u_19 : Int32 × MoV := (f_X10_addException d (xs ((nI j) + (1 : Int32)).toNatClampNeg) (xs ((nI j) + (2 : Int32)).toNatClampNeg) (1 : Int32)); (if (f_X10_thrown u_19.2) = u_15.1 then (if u_15.1 = (0 : Int32) then (if (lg_cmp (u_15.2.2.2.2 (0 : Int32).toNatClampNeg) u_19.1.toInt64) = (0 : Int32) then (q, u_15.2.1, o, u_15.2.2.1, u_15.2.2.2.1, pg, tb, nb, u_19.2, u_15.2.2.2.2, od) else (q, v, o, hi, hs, pg, tb, nb, d, ow, od)) else (q, u_15.2.1, o, u_15.2.2.1, u_15.2.2.2.1, pg, tb, nb, u_19.2, u_15.2.2.2.2, od)) else (q, v, o, hi, hs, pg, tb, nb, d, ow, od))))) := rfl
  have hok : (if (xs ((nI j) + (3 : Int32)).toNatClampNeg) = (0 : Int32) then (ok_L_addException q v hi hs (xs ((nI j) + (1 : Int32)).toNatClampNeg) (xs ((nI j) + (2 : Int32)).toNatClampNeg) (0 : Int32) ow ∧ (let u_4 : Int32 × StV × HiV × (Nat → StV) × (Nat → Int64) := (f_L_addException q v hi hs (xs ((nI j) + (1 : Int32)).toNatClampNeg) (xs ((nI j) + (2 : Int32)).toNatClampNeg) (0 : Int32) ow); (ok_X10_addException d (xs ((nI j) + (1 : Int32)).toNatClampNeg) (xs ((nI j) + (2 : Int32)).toNatClampNeg) (0 : Int32) ∧ (let u_8 : Int32 × MoV := (f_X10_addException d (xs ((nI j) + (1 : Int32)).toNatClampNeg) (xs ((nI j) + (2 : Int32)).toNatClampNeg) (0 : Int32)); (if (f_X10_thrown u_8.2) = u_4.1 then (if u_4.1 = (0 : Int32) then (if (lg_cmp (u_4.2.2.2.2 (0 : Int32).toNatClampNeg) u_8.1.toInt64) = (0 : Int32) then True else False) else True) else False))))) else (ok_L_addException q v hi hs (xs ((nI j) + (1 : Int32)).toNatClampNeg) (xs ((nI j) + (2 : Int32)).toNatClampNeg) (1 : Int32) ow ∧ (let u_15 : Int32 × StV × HiV × (Nat → StV) × (Nat → Int64) := (f_L_addException q v hi hs (xs ((nI j) + (1 : Int32)).toNatClampNeg) (xs ((nI j) + (2 : Int32)).toNatClampNeg) (1 : Int32) ow); (ok_X10_addException d (xs ((nI j) + (1 : Int32)).toNatClampNeg) (xs ((nI j) + (2 : Int32)).toNatClampNeg) (1 : Int32) ∧ (let u_19 : Int32 × MoV := (f_X10_addException d (xs ((nI j) + (1 : Int32)).toNatClampNeg) (xs ((nI j) + (2 : Int32)).toNatClampNeg) (1 : Int32)); (if (f_X10_thrown u_19.2) = u_15.1 then (if u_15.1 = (0 : Int32) then (if (lg_cmp (u_15.2.2.2.2 (0 : Int32).toNatClampNeg) u_19.1.toInt64) = (0 : Int32) then True else False) else True) else False)))))) := hok
  refine lv_aload_n hx hb dL_law_460 rfl (lv_at hl 1 rfl) ?_
  refine lv_aload_n hx hb dL_law_461 rfl (lv_at hl 0 rfl) ?_
  refine lv_iload hx hb dL_law_462 (lv_at hl 5 rfl) ?_
  refine lv_iconst (v := (1 : Int32)) hx hb dL_law_464 (by decide) ?_
  refine lv_iadd hx hb dL_law_465 ?_
  refine va_sld hx hb hX hbl hbA hS (lw_in (k := 1) q_1 hj hL (by decide)) dL_law_466 ?_
  refine lv_aload_n hx hb dL_law_467 rfl (lv_at hl 0 rfl) ?_
  refine lv_iload hx hb dL_law_468 (lv_at hl 5 rfl) ?_
  refine lv_iconst (v := (2 : Int32)) hx hb dL_law_470 (by decide) ?_
  refine lv_iadd hx hb dL_law_471 ?_
  refine va_sld hx hb hX hbl hbA hS (lw_in (k := 2) q_2 hj hL (by decide)) dL_law_472 ?_
  refine lv_aload_n hx hb dL_law_473 rfl (lv_at hl 0 rfl) ?_
  refine lv_iload hx hb dL_law_474 (lv_at hl 5 rfl) ?_
  refine lv_iconst (v := (3 : Int32)) hx hb dL_law_476 (by decide) ?_
  refine lv_iadd hx hb dL_law_477 ?_
  refine va_sld hx hb hX hbl hbA hS (lw_in (k := 3) q_3 hj hL (by decide)) dL_law_478 ?_
  refine lv_if_eq (tgt := 486) hx hb dL_law_479 (by decide) (fun c_1 => ?_) (fun c_1 => ?_)
  · have hF := hF.trans (if_pos c_1)
    have hok := Eq.mp (if_pos c_1) hok
    refine lv_iconst (v := (0 : Int32)) hx hb dL_law_486 (by decide) ?_
    refine lv_aload_n hx hb dL_law_487 rfl (lv_at hl 3 rfl) ?_
    have k_2 := hok.1
    have hok := hok.2
    refine w_SH (own := RL) (cs := [[(qh0, .inr (11, [.ref (va 0), .ref (oa 0), .int q.1, .ref hih0, .ref pgh0, .ref nbh0, .int q.2.1, .int q.2.2]))], wSt G va v, [(hih0, .inr (7, [.int hi.1, .int hi.2, .ref hsh]))], wHs G hsh hsa hs, [(owh, .inl (G.2.1 3, 1, .inr (.inl ow)))]]) (rs := [wSt G oa o, [(pgh0, .inr (9, [.int pg.1, .int pg.2.1, .int pg.2.2.1, .int pg.2.2.2, .ref tbh0]))], [(tbh0, .inr (1, [.ref tbh1, .int (0 : Int32), .int tb.2.2.1, .int tb.2.2.2]))], [(tbh1, .inl (G.2.1 2, tb.1, .inl tb.2.1))], [(nbh0, .inr (1, [.ref nbh1, .int (0 : Int32), .int nb.2.2.1, .int nb.2.2.2]))], [(nbh1, .inl (G.2.1 2, nb.1, .inl nb.2.1))], wMo G dh0 dh1 dh2 dh3 dh4 dh5 dh6 dh7 d, [(odh, .inl (G.2.1 4, 1, .inr (.inr (.inr (.inl od)))))]]) (As := [.ref qh0, .int (xs ((nI j) + (1 : Int32)).toNatClampNeg), .int (xs ((nI j) + (2 : Int32)).toNatClampNeg), .int (0 : Int32), .ref owh]) (rest := []) (c_L_addException l hlf G qh0 (oa 0) pgh0 nbh0 va hih0 hsh hsa owh H.size q v hi hs (xs ((nI j) + (1 : Int32)).toNatClampNeg) (xs ((nI j) + (2 : Int32)).toNatClampNeg) (0 : Int32) ow k_2) ⟨hx, hb, hml, hown, hts⟩ gh_L_184 hds_L_addException hK hST hS hP hD hA [0, 1, 3, 4, 11] [2, 5, 6, 7, 8, 9, 10, 12] rfl rfl rfl ⟨Nat.le_of_ble_eq_true rfl, Nat.le_of_ble_eq_true rfl⟩ ⟨(by show _ ≤ 603072; omega), (by show _ ≤ 7182442; omega)⟩ rfl hl.1 rfl (Nat.le_of_ble_eq_true rfl) dL_law_488 (fun u_4 H locs huu hP hD hS => ?_)
    have eu_4 := huu
    have hP : va_P G.1 vwCl (fl [[(qh0, .inr (11, [.ref (va 0), .ref (oa 0), .int q.1, .ref hih0, .ref pgh0, .ref nbh0, .int q.2.1, .int q.2.2]))], wSt G va u_4.2.1, [(hih0, .inr (7, [.int u_4.2.2.1.1, .int u_4.2.2.1.2, .ref hsh]))], wHs G hsh hsa u_4.2.2.2.1, [(owh, .inl (G.2.1 3, 1, .inr (.inl u_4.2.2.2.2)))], wSt G oa o, [(pgh0, .inr (9, [.int pg.1, .int pg.2.1, .int pg.2.2.1, .int pg.2.2.2, .ref tbh0]))], [(tbh0, .inr (1, [.ref tbh1, .int (0 : Int32), .int tb.2.2.1, .int tb.2.2.2]))], [(tbh1, .inl (G.2.1 2, tb.1, .inl tb.2.1))], [(nbh0, .inr (1, [.ref nbh1, .int (0 : Int32), .int nb.2.2.1, .int nb.2.2.2]))], [(nbh1, .inl (G.2.1 2, nb.1, .inl nb.2.1))], wMo G dh0 dh1 dh2 dh3 dh4 dh5 dh6 dh7 d, [(odh, .inl (G.2.1 4, 1, .inr (.inr (.inr (.inl od)))))]]) H := hP
    have hD : va_D A (fl [[(qh0, .inr (11, [.ref (va 0), .ref (oa 0), .int q.1, .ref hih0, .ref pgh0, .ref nbh0, .int q.2.1, .int q.2.2]))], wSt G va u_4.2.1, [(hih0, .inr (7, [.int u_4.2.2.1.1, .int u_4.2.2.1.2, .ref hsh]))], wHs G hsh hsa u_4.2.2.2.1, [(owh, .inl (G.2.1 3, 1, .inr (.inl u_4.2.2.2.2)))], wSt G oa o, [(pgh0, .inr (9, [.int pg.1, .int pg.2.1, .int pg.2.2.1, .int pg.2.2.2, .ref tbh0]))], [(tbh0, .inr (1, [.ref tbh1, .int (0 : Int32), .int tb.2.2.1, .int tb.2.2.2]))], [(tbh1, .inl (G.2.1 2, tb.1, .inl tb.2.1))], [(nbh0, .inr (1, [.ref nbh1, .int (0 : Int32), .int nb.2.2.1, .int nb.2.2.2]))], [(nbh1, .inl (G.2.1 2, nb.1, .inl nb.2.1))], wMo G dh0 dh1 dh2 dh3 dh4 dh5 dh6 dh7 d, [(odh, .inl (G.2.1 4, 1, .inr (.inr (.inr (.inl od)))))]]) := hD
    refine W.eq (g2 := F0 m 491 ls [.int u_4.1]) rfl ?_
    have hF : f_K2 q v o hi hs pg tb nb d ow od xs j = (let u_8 : Int32 × MoV := (f_X10_addException d (xs ((nI j) + (1 : Int32)).toNatClampNeg) (xs ((nI j) + (2 : Int32)).toNatClampNeg) (0 : Int32)); (if (f_X10_thrown u_8.2) = u_4.1 then (if u_4.1 = (0 : Int32) then (if (lg_cmp (u_4.2.2.2.2 (0 : Int32).toNatClampNeg) u_8.1.toInt64) = (0 : Int32) then (q, u_4.2.1, o, u_4.2.2.1, u_4.2.2.2.1, pg, tb, nb, u_8.2, u_4.2.2.2.2, od) else (q, v, o, hi, hs, pg, tb, nb, d, ow, od)) else (q, u_4.2.1, o, u_4.2.2.1, u_4.2.2.2.1, pg, tb, nb, u_8.2, u_4.2.2.2.2, od)) else (q, v, o, hi, hs, pg, tb, nb, d, ow, od))) := by subst eu_4; exact hF
    have hok : (ok_X10_addException d (xs ((nI j) + (1 : Int32)).toNatClampNeg) (xs ((nI j) + (2 : Int32)).toNatClampNeg) (0 : Int32) ∧ (let u_8 : Int32 × MoV := (f_X10_addException d (xs ((nI j) + (1 : Int32)).toNatClampNeg) (xs ((nI j) + (2 : Int32)).toNatClampNeg) (0 : Int32)); (if (f_X10_thrown u_8.2) = u_4.1 then (if u_4.1 = (0 : Int32) then (if (lg_cmp (u_4.2.2.2.2 (0 : Int32).toNatClampNeg) u_8.1.toInt64) = (0 : Int32) then True else False) else True) else False))) := by subst eu_4; exact hok
    refine lv_istore (lv' := [(6, .int u_4.1), (0, .ref b), (1, .ref qh0), (2, .ref dh0), (3, .ref owh), (4, .ref odh), (5, .int (nI j))]) hx hb dL_law_491 hl (by decide) rfl (fun ls hl => ?_)
    refine lv_aload_n hx hb dL_law_493 rfl (lv_at hl 3 rfl) ?_
    refine lv_aload_n hx hb dL_law_494 rfl (lv_at hl 1 rfl) ?_
    refine lv_iload hx hb dL_law_495 (lv_at hl 6 rfl) ?_
    refine lv_iconst (v := (1 : Int32)) hx hb dL_law_497 (by decide) ?_
    refine lv_iadd hx hb dL_law_498 ?_
    refine va_sld hx hb hX hbl hbA hS (lw_in (k := 1) q_1 hj hL (by decide)) dL_law_499 ?_
    refine lv_aload_n hx hb dL_law_500 rfl (lv_at hl 1 rfl) ?_
    refine lv_iload hx hb dL_law_501 (lv_at hl 6 rfl) ?_
    refine lv_iconst (v := (2 : Int32)) hx hb dL_law_503 (by decide) ?_
    refine lv_iadd hx hb dL_law_504 ?_
    refine va_sld hx hb hX hbl hbA hS (lw_in (k := 2) q_2 hj hL (by decide)) dL_law_505 ?_
    refine lv_aload_n hx hb dL_law_506 rfl (lv_at hl 1 rfl) ?_
    refine lv_iload hx hb dL_law_507 (lv_at hl 6 rfl) ?_
    refine lv_iconst (v := (3 : Int32)) hx hb dL_law_509 (by decide) ?_
    refine lv_iadd hx hb dL_law_510 ?_
    refine va_sld hx hb hX hbl hbA hS (lw_in (k := 3) q_3 hj hL (by decide)) dL_law_511 ?_
    refine lv_if_eq (tgt := 519) hx hb dL_law_512 (by decide) (fun c_5 => ?_) (fun c_5 => ?_)
    · refine lv_iconst (v := (0 : Int32)) hx hb dL_law_519 (by decide) ?_
      have k_6 := hok.1
      have hok := hok.2
      refine w_V (own := RL) (cs := [wMo G dh0 dh1 dh2 dh3 dh4 dh5 dh6 dh7 d]) (rs := [[(qh0, .inr (11, [.ref (va 0), .ref (oa 0), .int q.1, .ref hih0, .ref pgh0, .ref nbh0, .int q.2.1, .int q.2.2]))], wSt G va u_4.2.1, [(hih0, .inr (7, [.int u_4.2.2.1.1, .int u_4.2.2.1.2, .ref hsh]))], wHs G hsh hsa u_4.2.2.2.1, [(owh, .inl (G.2.1 3, 1, .inr (.inl u_4.2.2.2.2)))], wSt G oa o, [(pgh0, .inr (9, [.int pg.1, .int pg.2.1, .int pg.2.2.1, .int pg.2.2.2, .ref tbh0]))], [(tbh0, .inr (1, [.ref tbh1, .int (0 : Int32), .int tb.2.2.1, .int tb.2.2.2]))], [(tbh1, .inl (G.2.1 2, tb.1, .inl tb.2.1))], [(nbh0, .inr (1, [.ref nbh1, .int (0 : Int32), .int nb.2.2.1, .int nb.2.2.2]))], [(nbh1, .inl (G.2.1 2, nb.1, .inl nb.2.1))], [(odh, .inl (G.2.1 4, 1, .inr (.inr (.inr (.inl od)))))]]) (As := [.int (xs ((nI j) + (1 : Int32)).toNatClampNeg), .int (xs ((nI j) + (2 : Int32)).toNatClampNeg), .int (0 : Int32)]) (rest := []) (c_X10_addException l G dh0 dh1 dh2 dh3 dh4 dh5 dh6 dh7 H.size d (xs ((nI j) + (1 : Int32)).toNatClampNeg) (xs ((nI j) + (2 : Int32)).toNatClampNeg) (0 : Int32) k_6) ⟨hx, hb, hml, hown, hts⟩ g_L_187 hdv_X10_addException hK hST hS hP hD hA [11] [0, 1, 2, 3, 4, 5, 6, 7, 8, 9, 10, 12] rfl rfl rfl (k0 := 0) rfl rfl rfl ⟨Nat.le_of_ble_eq_true rfl, Nat.le_of_ble_eq_true rfl⟩ ⟨(by show _ ≤ 603072; omega), (by show _ ≤ 7182442; omega)⟩ rfl hl.1 rfl (Nat.le_of_ble_eq_true rfl) dL_law_520 (fun u_8 H locs huu hP hD hS => ?_)
      have eu_8 := huu
      have hP : va_P G.1 vwCl (fl [wMo G dh0 dh1 dh2 dh3 dh4 dh5 dh6 dh7 u_8.2, [(qh0, .inr (11, [.ref (va 0), .ref (oa 0), .int q.1, .ref hih0, .ref pgh0, .ref nbh0, .int q.2.1, .int q.2.2]))], wSt G va u_4.2.1, [(hih0, .inr (7, [.int u_4.2.2.1.1, .int u_4.2.2.1.2, .ref hsh]))], wHs G hsh hsa u_4.2.2.2.1, [(owh, .inl (G.2.1 3, 1, .inr (.inl u_4.2.2.2.2)))], wSt G oa o, [(pgh0, .inr (9, [.int pg.1, .int pg.2.1, .int pg.2.2.1, .int pg.2.2.2, .ref tbh0]))], [(tbh0, .inr (1, [.ref tbh1, .int (0 : Int32), .int tb.2.2.1, .int tb.2.2.2]))], [(tbh1, .inl (G.2.1 2, tb.1, .inl tb.2.1))], [(nbh0, .inr (1, [.ref nbh1, .int (0 : Int32), .int nb.2.2.1, .int nb.2.2.2]))], [(nbh1, .inl (G.2.1 2, nb.1, .inl nb.2.1))], [(odh, .inl (G.2.1 4, 1, .inr (.inr (.inr (.inl od)))))]]) H := hP
      have hD : va_D A (fl [wMo G dh0 dh1 dh2 dh3 dh4 dh5 dh6 dh7 u_8.2, [(qh0, .inr (11, [.ref (va 0), .ref (oa 0), .int q.1, .ref hih0, .ref pgh0, .ref nbh0, .int q.2.1, .int q.2.2]))], wSt G va u_4.2.1, [(hih0, .inr (7, [.int u_4.2.2.1.1, .int u_4.2.2.1.2, .ref hsh]))], wHs G hsh hsa u_4.2.2.2.1, [(owh, .inl (G.2.1 3, 1, .inr (.inl u_4.2.2.2.2)))], wSt G oa o, [(pgh0, .inr (9, [.int pg.1, .int pg.2.1, .int pg.2.2.1, .int pg.2.2.2, .ref tbh0]))], [(tbh0, .inr (1, [.ref tbh1, .int (0 : Int32), .int tb.2.2.1, .int tb.2.2.2]))], [(tbh1, .inl (G.2.1 2, tb.1, .inl tb.2.1))], [(nbh0, .inr (1, [.ref nbh1, .int (0 : Int32), .int nb.2.2.1, .int nb.2.2.2]))], [(nbh1, .inl (G.2.1 2, nb.1, .inl nb.2.1))], [(odh, .inl (G.2.1 4, 1, .inr (.inr (.inr (.inl od)))))]]) := hD
      refine W.eq (g2 := F0 m 523 ls [.int u_8.1]) rfl ?_
      have hF : f_K2 q v o hi hs pg tb nb d ow od xs j = (if (f_X10_thrown u_8.2) = u_4.1 then (if u_4.1 = (0 : Int32) then (if (lg_cmp (u_4.2.2.2.2 (0 : Int32).toNatClampNeg) u_8.1.toInt64) = (0 : Int32) then (q, u_4.2.1, o, u_4.2.2.1, u_4.2.2.2.1, pg, tb, nb, u_8.2, u_4.2.2.2.2, od) else (q, v, o, hi, hs, pg, tb, nb, d, ow, od)) else (q, u_4.2.1, o, u_4.2.2.1, u_4.2.2.2.1, pg, tb, nb, u_8.2, u_4.2.2.2.2, od)) else (q, v, o, hi, hs, pg, tb, nb, d, ow, od)) := by subst eu_8; exact hF
      have hok : (if (f_X10_thrown u_8.2) = u_4.1 then (if u_4.1 = (0 : Int32) then (if (lg_cmp (u_4.2.2.2.2 (0 : Int32).toNatClampNeg) u_8.1.toInt64) = (0 : Int32) then True else False) else True) else False) := by subst eu_8; exact hok
      refine lv_istore (lv' := [(7, .int u_8.1), (6, .int u_4.1), (0, .ref b), (1, .ref qh0), (2, .ref dh0), (3, .ref owh), (4, .ref odh), (5, .int (nI j))]) hx hb dL_law_523 hl (by decide) rfl (fun ls hl => ?_)
      refine lv_aload_n hx hb dL_law_525 rfl (lv_at hl 4 rfl) ?_
      refine r_V (own := RL) (v := (some (.int (f_X10_thrown u_8.2)))) (st1 := [.int (f_X10_thrown u_8.2)]) (As := []) (rest := []) (c_X10_thrown l G dh0 dh1 dh2 dh3 dh4 dh5 dh6 dh7 u_8.2) ⟨hx, hb, hml, hown, hts⟩ g_L_177 hdv_X10_thrown hK hST hS hP [0, 1, 2, 3, 4, 5, 6, 7] rfl (k0 := 0) rfl rfl rfl ⟨Nat.le_of_ble_eq_true rfl, Nat.le_of_ble_eq_true rfl⟩ ⟨(by show _ ≤ 603072; omega), (by show _ ≤ 7182442; omega)⟩ rfl hl.1 rfl (Nat.le_of_ble_eq_true rfl) dL_law_526 rfl (fun b_9 => ?_)
      refine lv_iload hx hb dL_law_529 (lv_at hl 1 rfl) ?_
      refine lv_icmp_eq (tgt := 536) hx hb dL_law_531 (by decide) (fun c_10 => ?_) (fun c_10 => ?_)
      · have hF := hF.trans (if_pos c_10)
        have hok := Eq.mp (if_pos c_10) hok
        refine lv_iload hx hb dL_law_536 (lv_at hl 1 rfl) ?_
        refine lv_if_ne (tgt := 553) hx hb dL_law_538 (by decide) (fun c_11 => ?_) (fun c_11 => ?_)
        · have hF := hF.trans (if_neg c_11)
          have hok := Eq.mp (if_neg c_11) hok
          refine lv_goto (tgt := 3104) hx hb dL_law_553 (by decide) ?_
          have hP := fl_sub (cs := [[(qh0, .inr (11, [.ref (va 0), .ref (oa 0), .int q.1, .ref hih0, .ref pgh0, .ref nbh0, .int q.2.1, .int q.2.2]))], wSt G va u_4.2.1, wSt G oa o, [(hih0, .inr (7, [.int u_4.2.2.1.1, .int u_4.2.2.1.2, .ref hsh]))], wHs G hsh hsa u_4.2.2.2.1, [(pgh0, .inr (9, [.int pg.1, .int pg.2.1, .int pg.2.2.1, .int pg.2.2.2, .ref tbh0]))], [(tbh0, .inr (1, [.ref tbh1, .int (0 : Int32), .int tb.2.2.1, .int tb.2.2.2]))], [(tbh1, .inl (G.2.1 2, tb.1, .inl tb.2.1))], [(nbh0, .inr (1, [.ref nbh1, .int (0 : Int32), .int nb.2.2.1, .int nb.2.2.2]))], [(nbh1, .inl (G.2.1 2, nb.1, .inl nb.2.1))], wMo G dh0 dh1 dh2 dh3 dh4 dh5 dh6 dh7 u_8.2, [(owh, .inl (G.2.1 3, 1, .inr (.inl u_4.2.2.2.2)))], [(odh, .inl (G.2.1 4, 1, .inr (.inr (.inr (.inl od)))))]]) [1, 2, 6, 3, 4, 7, 8, 9, 10, 11, 0, 5, 12] rfl hP
          have hD := fl_subD (cs := [[(qh0, .inr (11, [.ref (va 0), .ref (oa 0), .int q.1, .ref hih0, .ref pgh0, .ref nbh0, .int q.2.1, .int q.2.2]))], wSt G va u_4.2.1, wSt G oa o, [(hih0, .inr (7, [.int u_4.2.2.1.1, .int u_4.2.2.1.2, .ref hsh]))], wHs G hsh hsa u_4.2.2.2.1, [(pgh0, .inr (9, [.int pg.1, .int pg.2.1, .int pg.2.2.1, .int pg.2.2.2, .ref tbh0]))], [(tbh0, .inr (1, [.ref tbh1, .int (0 : Int32), .int tb.2.2.1, .int tb.2.2.2]))], [(tbh1, .inl (G.2.1 2, tb.1, .inl tb.2.1))], [(nbh0, .inr (1, [.ref nbh1, .int (0 : Int32), .int nb.2.2.1, .int nb.2.2.2]))], [(nbh1, .inl (G.2.1 2, nb.1, .inl nb.2.1))], wMo G dh0 dh1 dh2 dh3 dh4 dh5 dh6 dh7 u_8.2, [(owh, .inl (G.2.1 3, 1, .inr (.inl u_4.2.2.2.2)))], [(odh, .inl (G.2.1 4, 1, .inr (.inr (.inr (.inl od)))))]]) [1, 2, 6, 3, 4, 7, 8, 9, 10, 11, 0, 5, 12] rfl rfl hD
          refine W.widen (k := kc + 22) (n := ks + 4206) (by omega) (by omega) ?_
          exact kk tbh1 nbh1 (q, u_4.2.1, o, u_4.2.2.1, u_4.2.2.2.1, pg, tb, nb, u_8.2, u_4.2.2.2.2, od) _ _ ls hF.symm (lv_sub hl [2, 3, 4, 5, 6, 7] rfl) hP hD hS
        · have hF := hF.trans (if_pos c_11)
          have hok := Eq.mp (if_pos c_11) hok
          refine lv_aload_n hx hb dL_law_541 rfl (lv_at hl 5 rfl) ?_
          refine lv_iconst (v := (0 : Int32)) hx hb dL_law_542 (by decide) ?_
          refine va_lald hx hb hK hP 211 3 rfl rfl (vp_in_nI (n := 0) (by decide) (by decide)) dL_law_543 ?_
          refine lv_iload hx hb dL_law_544 (lv_at hl 0 rfl) ?_
          refine lv_i2l hx hb dL_law_546 rfl ?_
          refine W.lcmp hx hb dL_law_547 ?_
          refine lv_if_eq (tgt := 553) hx hb dL_law_548 (by decide) (fun c_12 => ?_) (fun c_12 => ?_)
          · have hF := hF.trans (if_pos c_12)
            have hok := Eq.mp (if_pos c_12) hok
            refine lv_goto (tgt := 3104) hx hb dL_law_553 (by decide) ?_
            have hP := fl_sub (cs := [[(qh0, .inr (11, [.ref (va 0), .ref (oa 0), .int q.1, .ref hih0, .ref pgh0, .ref nbh0, .int q.2.1, .int q.2.2]))], wSt G va u_4.2.1, wSt G oa o, [(hih0, .inr (7, [.int u_4.2.2.1.1, .int u_4.2.2.1.2, .ref hsh]))], wHs G hsh hsa u_4.2.2.2.1, [(pgh0, .inr (9, [.int pg.1, .int pg.2.1, .int pg.2.2.1, .int pg.2.2.2, .ref tbh0]))], [(tbh0, .inr (1, [.ref tbh1, .int (0 : Int32), .int tb.2.2.1, .int tb.2.2.2]))], [(tbh1, .inl (G.2.1 2, tb.1, .inl tb.2.1))], [(nbh0, .inr (1, [.ref nbh1, .int (0 : Int32), .int nb.2.2.1, .int nb.2.2.2]))], [(nbh1, .inl (G.2.1 2, nb.1, .inl nb.2.1))], wMo G dh0 dh1 dh2 dh3 dh4 dh5 dh6 dh7 u_8.2, [(owh, .inl (G.2.1 3, 1, .inr (.inl u_4.2.2.2.2)))], [(odh, .inl (G.2.1 4, 1, .inr (.inr (.inr (.inl od)))))]]) [1, 2, 6, 3, 4, 7, 8, 9, 10, 11, 0, 5, 12] rfl hP
            have hD := fl_subD (cs := [[(qh0, .inr (11, [.ref (va 0), .ref (oa 0), .int q.1, .ref hih0, .ref pgh0, .ref nbh0, .int q.2.1, .int q.2.2]))], wSt G va u_4.2.1, wSt G oa o, [(hih0, .inr (7, [.int u_4.2.2.1.1, .int u_4.2.2.1.2, .ref hsh]))], wHs G hsh hsa u_4.2.2.2.1, [(pgh0, .inr (9, [.int pg.1, .int pg.2.1, .int pg.2.2.1, .int pg.2.2.2, .ref tbh0]))], [(tbh0, .inr (1, [.ref tbh1, .int (0 : Int32), .int tb.2.2.1, .int tb.2.2.2]))], [(tbh1, .inl (G.2.1 2, tb.1, .inl tb.2.1))], [(nbh0, .inr (1, [.ref nbh1, .int (0 : Int32), .int nb.2.2.1, .int nb.2.2.2]))], [(nbh1, .inl (G.2.1 2, nb.1, .inl nb.2.1))], wMo G dh0 dh1 dh2 dh3 dh4 dh5 dh6 dh7 u_8.2, [(owh, .inl (G.2.1 3, 1, .inr (.inl u_4.2.2.2.2)))], [(odh, .inl (G.2.1 4, 1, .inr (.inr (.inr (.inl od)))))]]) [1, 2, 6, 3, 4, 7, 8, 9, 10, 11, 0, 5, 12] rfl rfl hD
            refine W.widen (k := kc + 22) (n := ks + 4206) (by omega) (by omega) ?_
            exact kk tbh1 nbh1 (q, u_4.2.1, o, u_4.2.2.1, u_4.2.2.2.1, pg, tb, nb, u_8.2, u_4.2.2.2.2, od) _ _ ls hF.symm (lv_sub hl [2, 3, 4, 5, 6, 7] rfl) hP hD hS
          · have hF := hF.trans (if_neg c_12)
            have hok := Eq.mp (if_neg c_12) hok
            exact hok.elim
      · have hF := hF.trans (if_neg c_10)
        have hok := Eq.mp (if_neg c_10) hok
        exact hok.elim
    · exact absurd c_1 c_5
  · have hF := hF.trans (if_neg c_1)
    have hok := Eq.mp (if_neg c_1) hok
    refine lv_iconst (v := (1 : Int32)) hx hb dL_law_482 (by decide) ?_
    refine lv_goto (tgt := 487) hx hb dL_law_483 (by decide) ?_
    refine lv_aload_n hx hb dL_law_487 rfl (lv_at hl 3 rfl) ?_
    have k_13 := hok.1
    have hok := hok.2
    refine w_SH (own := RL) (cs := [[(qh0, .inr (11, [.ref (va 0), .ref (oa 0), .int q.1, .ref hih0, .ref pgh0, .ref nbh0, .int q.2.1, .int q.2.2]))], wSt G va v, [(hih0, .inr (7, [.int hi.1, .int hi.2, .ref hsh]))], wHs G hsh hsa hs, [(owh, .inl (G.2.1 3, 1, .inr (.inl ow)))]]) (rs := [wSt G oa o, [(pgh0, .inr (9, [.int pg.1, .int pg.2.1, .int pg.2.2.1, .int pg.2.2.2, .ref tbh0]))], [(tbh0, .inr (1, [.ref tbh1, .int (0 : Int32), .int tb.2.2.1, .int tb.2.2.2]))], [(tbh1, .inl (G.2.1 2, tb.1, .inl tb.2.1))], [(nbh0, .inr (1, [.ref nbh1, .int (0 : Int32), .int nb.2.2.1, .int nb.2.2.2]))], [(nbh1, .inl (G.2.1 2, nb.1, .inl nb.2.1))], wMo G dh0 dh1 dh2 dh3 dh4 dh5 dh6 dh7 d, [(odh, .inl (G.2.1 4, 1, .inr (.inr (.inr (.inl od)))))]]) (As := [.ref qh0, .int (xs ((nI j) + (1 : Int32)).toNatClampNeg), .int (xs ((nI j) + (2 : Int32)).toNatClampNeg), .int (1 : Int32), .ref owh]) (rest := []) (c_L_addException l hlf G qh0 (oa 0) pgh0 nbh0 va hih0 hsh hsa owh H.size q v hi hs (xs ((nI j) + (1 : Int32)).toNatClampNeg) (xs ((nI j) + (2 : Int32)).toNatClampNeg) (1 : Int32) ow k_13) ⟨hx, hb, hml, hown, hts⟩ gh_L_184 hds_L_addException hK hST hS hP hD hA [0, 1, 3, 4, 11] [2, 5, 6, 7, 8, 9, 10, 12] rfl rfl rfl ⟨Nat.le_of_ble_eq_true rfl, Nat.le_of_ble_eq_true rfl⟩ ⟨(by show _ ≤ 603072; omega), (by show _ ≤ 7182442; omega)⟩ rfl hl.1 rfl (Nat.le_of_ble_eq_true rfl) dL_law_488 (fun u_15 H locs huu hP hD hS => ?_)
    have eu_15 := huu
    have hP : va_P G.1 vwCl (fl [[(qh0, .inr (11, [.ref (va 0), .ref (oa 0), .int q.1, .ref hih0, .ref pgh0, .ref nbh0, .int q.2.1, .int q.2.2]))], wSt G va u_15.2.1, [(hih0, .inr (7, [.int u_15.2.2.1.1, .int u_15.2.2.1.2, .ref hsh]))], wHs G hsh hsa u_15.2.2.2.1, [(owh, .inl (G.2.1 3, 1, .inr (.inl u_15.2.2.2.2)))], wSt G oa o, [(pgh0, .inr (9, [.int pg.1, .int pg.2.1, .int pg.2.2.1, .int pg.2.2.2, .ref tbh0]))], [(tbh0, .inr (1, [.ref tbh1, .int (0 : Int32), .int tb.2.2.1, .int tb.2.2.2]))], [(tbh1, .inl (G.2.1 2, tb.1, .inl tb.2.1))], [(nbh0, .inr (1, [.ref nbh1, .int (0 : Int32), .int nb.2.2.1, .int nb.2.2.2]))], [(nbh1, .inl (G.2.1 2, nb.1, .inl nb.2.1))], wMo G dh0 dh1 dh2 dh3 dh4 dh5 dh6 dh7 d, [(odh, .inl (G.2.1 4, 1, .inr (.inr (.inr (.inl od)))))]]) H := hP
    have hD : va_D A (fl [[(qh0, .inr (11, [.ref (va 0), .ref (oa 0), .int q.1, .ref hih0, .ref pgh0, .ref nbh0, .int q.2.1, .int q.2.2]))], wSt G va u_15.2.1, [(hih0, .inr (7, [.int u_15.2.2.1.1, .int u_15.2.2.1.2, .ref hsh]))], wHs G hsh hsa u_15.2.2.2.1, [(owh, .inl (G.2.1 3, 1, .inr (.inl u_15.2.2.2.2)))], wSt G oa o, [(pgh0, .inr (9, [.int pg.1, .int pg.2.1, .int pg.2.2.1, .int pg.2.2.2, .ref tbh0]))], [(tbh0, .inr (1, [.ref tbh1, .int (0 : Int32), .int tb.2.2.1, .int tb.2.2.2]))], [(tbh1, .inl (G.2.1 2, tb.1, .inl tb.2.1))], [(nbh0, .inr (1, [.ref nbh1, .int (0 : Int32), .int nb.2.2.1, .int nb.2.2.2]))], [(nbh1, .inl (G.2.1 2, nb.1, .inl nb.2.1))], wMo G dh0 dh1 dh2 dh3 dh4 dh5 dh6 dh7 d, [(odh, .inl (G.2.1 4, 1, .inr (.inr (.inr (.inl od)))))]]) := hD
    refine W.eq (g2 := F0 m 491 ls [.int u_15.1]) rfl ?_
    have hF : f_K2 q v o hi hs pg tb nb d ow od xs j = (let u_19 : Int32 × MoV := (f_X10_addException d (xs ((nI j) + (1 : Int32)).toNatClampNeg) (xs ((nI j) + (2 : Int32)).toNatClampNeg) (1 : Int32)); (if (f_X10_thrown u_19.2) = u_15.1 then (if u_15.1 = (0 : Int32) then (if (lg_cmp (u_15.2.2.2.2 (0 : Int32).toNatClampNeg) u_19.1.toInt64) = (0 : Int32) then (q, u_15.2.1, o, u_15.2.2.1, u_15.2.2.2.1, pg, tb, nb, u_19.2, u_15.2.2.2.2, od) else (q, v, o, hi, hs, pg, tb, nb, d, ow, od)) else (q, u_15.2.1, o, u_15.2.2.1, u_15.2.2.2.1, pg, tb, nb, u_19.2, u_15.2.2.2.2, od)) else (q, v, o, hi, hs, pg, tb, nb, d, ow, od))) := by subst eu_15; exact hF
    have hok : (ok_X10_addException d (xs ((nI j) + (1 : Int32)).toNatClampNeg) (xs ((nI j) + (2 : Int32)).toNatClampNeg) (1 : Int32) ∧ (let u_19 : Int32 × MoV := (f_X10_addException d (xs ((nI j) + (1 : Int32)).toNatClampNeg) (xs ((nI j) + (2 : Int32)).toNatClampNeg) (1 : Int32)); (if (f_X10_thrown u_19.2) = u_15.1 then (if u_15.1 = (0 : Int32) then (if (lg_cmp (u_15.2.2.2.2 (0 : Int32).toNatClampNeg) u_19.1.toInt64) = (0 : Int32) then True else False) else True) else False))) := by subst eu_15; exact hok
    refine lv_istore (lv' := [(6, .int u_15.1), (0, .ref b), (1, .ref qh0), (2, .ref dh0), (3, .ref owh), (4, .ref odh), (5, .int (nI j))]) hx hb dL_law_491 hl (by decide) rfl (fun ls hl => ?_)
    refine lv_aload_n hx hb dL_law_493 rfl (lv_at hl 3 rfl) ?_
    refine lv_aload_n hx hb dL_law_494 rfl (lv_at hl 1 rfl) ?_
    refine lv_iload hx hb dL_law_495 (lv_at hl 6 rfl) ?_
    refine lv_iconst (v := (1 : Int32)) hx hb dL_law_497 (by decide) ?_
    refine lv_iadd hx hb dL_law_498 ?_
    refine va_sld hx hb hX hbl hbA hS (lw_in (k := 1) q_1 hj hL (by decide)) dL_law_499 ?_
    refine lv_aload_n hx hb dL_law_500 rfl (lv_at hl 1 rfl) ?_
    refine lv_iload hx hb dL_law_501 (lv_at hl 6 rfl) ?_
    refine lv_iconst (v := (2 : Int32)) hx hb dL_law_503 (by decide) ?_
    refine lv_iadd hx hb dL_law_504 ?_
    refine va_sld hx hb hX hbl hbA hS (lw_in (k := 2) q_2 hj hL (by decide)) dL_law_505 ?_
    refine lv_aload_n hx hb dL_law_506 rfl (lv_at hl 1 rfl) ?_
    refine lv_iload hx hb dL_law_507 (lv_at hl 6 rfl) ?_
    refine lv_iconst (v := (3 : Int32)) hx hb dL_law_509 (by decide) ?_
    refine lv_iadd hx hb dL_law_510 ?_
    refine va_sld hx hb hX hbl hbA hS (lw_in (k := 3) q_3 hj hL (by decide)) dL_law_511 ?_
    refine lv_if_eq (tgt := 519) hx hb dL_law_512 (by decide) (fun c_16 => ?_) (fun c_16 => ?_)
    · exact absurd c_16 c_1
    · refine lv_iconst (v := (1 : Int32)) hx hb dL_law_515 (by decide) ?_
      refine lv_goto (tgt := 520) hx hb dL_law_516 (by decide) ?_
      have k_17 := hok.1
      have hok := hok.2
      refine w_V (own := RL) (cs := [wMo G dh0 dh1 dh2 dh3 dh4 dh5 dh6 dh7 d]) (rs := [[(qh0, .inr (11, [.ref (va 0), .ref (oa 0), .int q.1, .ref hih0, .ref pgh0, .ref nbh0, .int q.2.1, .int q.2.2]))], wSt G va u_15.2.1, [(hih0, .inr (7, [.int u_15.2.2.1.1, .int u_15.2.2.1.2, .ref hsh]))], wHs G hsh hsa u_15.2.2.2.1, [(owh, .inl (G.2.1 3, 1, .inr (.inl u_15.2.2.2.2)))], wSt G oa o, [(pgh0, .inr (9, [.int pg.1, .int pg.2.1, .int pg.2.2.1, .int pg.2.2.2, .ref tbh0]))], [(tbh0, .inr (1, [.ref tbh1, .int (0 : Int32), .int tb.2.2.1, .int tb.2.2.2]))], [(tbh1, .inl (G.2.1 2, tb.1, .inl tb.2.1))], [(nbh0, .inr (1, [.ref nbh1, .int (0 : Int32), .int nb.2.2.1, .int nb.2.2.2]))], [(nbh1, .inl (G.2.1 2, nb.1, .inl nb.2.1))], [(odh, .inl (G.2.1 4, 1, .inr (.inr (.inr (.inl od)))))]]) (As := [.int (xs ((nI j) + (1 : Int32)).toNatClampNeg), .int (xs ((nI j) + (2 : Int32)).toNatClampNeg), .int (1 : Int32)]) (rest := []) (c_X10_addException l G dh0 dh1 dh2 dh3 dh4 dh5 dh6 dh7 H.size d (xs ((nI j) + (1 : Int32)).toNatClampNeg) (xs ((nI j) + (2 : Int32)).toNatClampNeg) (1 : Int32) k_17) ⟨hx, hb, hml, hown, hts⟩ g_L_187 hdv_X10_addException hK hST hS hP hD hA [11] [0, 1, 2, 3, 4, 5, 6, 7, 8, 9, 10, 12] rfl rfl rfl (k0 := 0) rfl rfl rfl ⟨Nat.le_of_ble_eq_true rfl, Nat.le_of_ble_eq_true rfl⟩ ⟨(by show _ ≤ 603072; omega), (by show _ ≤ 7182442; omega)⟩ rfl hl.1 rfl (Nat.le_of_ble_eq_true rfl) dL_law_520 (fun u_19 H locs huu hP hD hS => ?_)
      have eu_19 := huu
      have hP : va_P G.1 vwCl (fl [wMo G dh0 dh1 dh2 dh3 dh4 dh5 dh6 dh7 u_19.2, [(qh0, .inr (11, [.ref (va 0), .ref (oa 0), .int q.1, .ref hih0, .ref pgh0, .ref nbh0, .int q.2.1, .int q.2.2]))], wSt G va u_15.2.1, [(hih0, .inr (7, [.int u_15.2.2.1.1, .int u_15.2.2.1.2, .ref hsh]))], wHs G hsh hsa u_15.2.2.2.1, [(owh, .inl (G.2.1 3, 1, .inr (.inl u_15.2.2.2.2)))], wSt G oa o, [(pgh0, .inr (9, [.int pg.1, .int pg.2.1, .int pg.2.2.1, .int pg.2.2.2, .ref tbh0]))], [(tbh0, .inr (1, [.ref tbh1, .int (0 : Int32), .int tb.2.2.1, .int tb.2.2.2]))], [(tbh1, .inl (G.2.1 2, tb.1, .inl tb.2.1))], [(nbh0, .inr (1, [.ref nbh1, .int (0 : Int32), .int nb.2.2.1, .int nb.2.2.2]))], [(nbh1, .inl (G.2.1 2, nb.1, .inl nb.2.1))], [(odh, .inl (G.2.1 4, 1, .inr (.inr (.inr (.inl od)))))]]) H := hP
      have hD : va_D A (fl [wMo G dh0 dh1 dh2 dh3 dh4 dh5 dh6 dh7 u_19.2, [(qh0, .inr (11, [.ref (va 0), .ref (oa 0), .int q.1, .ref hih0, .ref pgh0, .ref nbh0, .int q.2.1, .int q.2.2]))], wSt G va u_15.2.1, [(hih0, .inr (7, [.int u_15.2.2.1.1, .int u_15.2.2.1.2, .ref hsh]))], wHs G hsh hsa u_15.2.2.2.1, [(owh, .inl (G.2.1 3, 1, .inr (.inl u_15.2.2.2.2)))], wSt G oa o, [(pgh0, .inr (9, [.int pg.1, .int pg.2.1, .int pg.2.2.1, .int pg.2.2.2, .ref tbh0]))], [(tbh0, .inr (1, [.ref tbh1, .int (0 : Int32), .int tb.2.2.1, .int tb.2.2.2]))], [(tbh1, .inl (G.2.1 2, tb.1, .inl tb.2.1))], [(nbh0, .inr (1, [.ref nbh1, .int (0 : Int32), .int nb.2.2.1, .int nb.2.2.2]))], [(nbh1, .inl (G.2.1 2, nb.1, .inl nb.2.1))], [(odh, .inl (G.2.1 4, 1, .inr (.inr (.inr (.inl od)))))]]) := hD
      refine W.eq (g2 := F0 m 523 ls [.int u_19.1]) rfl ?_
      have hF : f_K2 q v o hi hs pg tb nb d ow od xs j = (if (f_X10_thrown u_19.2) = u_15.1 then (if u_15.1 = (0 : Int32) then (if (lg_cmp (u_15.2.2.2.2 (0 : Int32).toNatClampNeg) u_19.1.toInt64) = (0 : Int32) then (q, u_15.2.1, o, u_15.2.2.1, u_15.2.2.2.1, pg, tb, nb, u_19.2, u_15.2.2.2.2, od) else (q, v, o, hi, hs, pg, tb, nb, d, ow, od)) else (q, u_15.2.1, o, u_15.2.2.1, u_15.2.2.2.1, pg, tb, nb, u_19.2, u_15.2.2.2.2, od)) else (q, v, o, hi, hs, pg, tb, nb, d, ow, od)) := by subst eu_19; exact hF
      have hok : (if (f_X10_thrown u_19.2) = u_15.1 then (if u_15.1 = (0 : Int32) then (if (lg_cmp (u_15.2.2.2.2 (0 : Int32).toNatClampNeg) u_19.1.toInt64) = (0 : Int32) then True else False) else True) else False) := by subst eu_19; exact hok
      refine lv_istore (lv' := [(7, .int u_19.1), (6, .int u_15.1), (0, .ref b), (1, .ref qh0), (2, .ref dh0), (3, .ref owh), (4, .ref odh), (5, .int (nI j))]) hx hb dL_law_523 hl (by decide) rfl (fun ls hl => ?_)
      refine lv_aload_n hx hb dL_law_525 rfl (lv_at hl 4 rfl) ?_
      refine r_V (own := RL) (v := (some (.int (f_X10_thrown u_19.2)))) (st1 := [.int (f_X10_thrown u_19.2)]) (As := []) (rest := []) (c_X10_thrown l G dh0 dh1 dh2 dh3 dh4 dh5 dh6 dh7 u_19.2) ⟨hx, hb, hml, hown, hts⟩ g_L_177 hdv_X10_thrown hK hST hS hP [0, 1, 2, 3, 4, 5, 6, 7] rfl (k0 := 0) rfl rfl rfl ⟨Nat.le_of_ble_eq_true rfl, Nat.le_of_ble_eq_true rfl⟩ ⟨(by show _ ≤ 603072; omega), (by show _ ≤ 7182442; omega)⟩ rfl hl.1 rfl (Nat.le_of_ble_eq_true rfl) dL_law_526 rfl (fun b_20 => ?_)
      refine lv_iload hx hb dL_law_529 (lv_at hl 1 rfl) ?_
      refine lv_icmp_eq (tgt := 536) hx hb dL_law_531 (by decide) (fun c_21 => ?_) (fun c_21 => ?_)
      · have hF := hF.trans (if_pos c_21)
        have hok := Eq.mp (if_pos c_21) hok
        refine lv_iload hx hb dL_law_536 (lv_at hl 1 rfl) ?_
        refine lv_if_ne (tgt := 553) hx hb dL_law_538 (by decide) (fun c_22 => ?_) (fun c_22 => ?_)
        · have hF := hF.trans (if_neg c_22)
          have hok := Eq.mp (if_neg c_22) hok
          refine lv_goto (tgt := 3104) hx hb dL_law_553 (by decide) ?_
          have hP := fl_sub (cs := [[(qh0, .inr (11, [.ref (va 0), .ref (oa 0), .int q.1, .ref hih0, .ref pgh0, .ref nbh0, .int q.2.1, .int q.2.2]))], wSt G va u_15.2.1, wSt G oa o, [(hih0, .inr (7, [.int u_15.2.2.1.1, .int u_15.2.2.1.2, .ref hsh]))], wHs G hsh hsa u_15.2.2.2.1, [(pgh0, .inr (9, [.int pg.1, .int pg.2.1, .int pg.2.2.1, .int pg.2.2.2, .ref tbh0]))], [(tbh0, .inr (1, [.ref tbh1, .int (0 : Int32), .int tb.2.2.1, .int tb.2.2.2]))], [(tbh1, .inl (G.2.1 2, tb.1, .inl tb.2.1))], [(nbh0, .inr (1, [.ref nbh1, .int (0 : Int32), .int nb.2.2.1, .int nb.2.2.2]))], [(nbh1, .inl (G.2.1 2, nb.1, .inl nb.2.1))], wMo G dh0 dh1 dh2 dh3 dh4 dh5 dh6 dh7 u_19.2, [(owh, .inl (G.2.1 3, 1, .inr (.inl u_15.2.2.2.2)))], [(odh, .inl (G.2.1 4, 1, .inr (.inr (.inr (.inl od)))))]]) [1, 2, 6, 3, 4, 7, 8, 9, 10, 11, 0, 5, 12] rfl hP
          have hD := fl_subD (cs := [[(qh0, .inr (11, [.ref (va 0), .ref (oa 0), .int q.1, .ref hih0, .ref pgh0, .ref nbh0, .int q.2.1, .int q.2.2]))], wSt G va u_15.2.1, wSt G oa o, [(hih0, .inr (7, [.int u_15.2.2.1.1, .int u_15.2.2.1.2, .ref hsh]))], wHs G hsh hsa u_15.2.2.2.1, [(pgh0, .inr (9, [.int pg.1, .int pg.2.1, .int pg.2.2.1, .int pg.2.2.2, .ref tbh0]))], [(tbh0, .inr (1, [.ref tbh1, .int (0 : Int32), .int tb.2.2.1, .int tb.2.2.2]))], [(tbh1, .inl (G.2.1 2, tb.1, .inl tb.2.1))], [(nbh0, .inr (1, [.ref nbh1, .int (0 : Int32), .int nb.2.2.1, .int nb.2.2.2]))], [(nbh1, .inl (G.2.1 2, nb.1, .inl nb.2.1))], wMo G dh0 dh1 dh2 dh3 dh4 dh5 dh6 dh7 u_19.2, [(owh, .inl (G.2.1 3, 1, .inr (.inl u_15.2.2.2.2)))], [(odh, .inl (G.2.1 4, 1, .inr (.inr (.inr (.inl od)))))]]) [1, 2, 6, 3, 4, 7, 8, 9, 10, 11, 0, 5, 12] rfl rfl hD
          refine W.widen (k := kc + 22) (n := ks + 4206) (by omega) (by omega) ?_
          exact kk tbh1 nbh1 (q, u_15.2.1, o, u_15.2.2.1, u_15.2.2.2.1, pg, tb, nb, u_19.2, u_15.2.2.2.2, od) _ _ ls hF.symm (lv_sub hl [2, 3, 4, 5, 6, 7] rfl) hP hD hS
        · have hF := hF.trans (if_pos c_22)
          have hok := Eq.mp (if_pos c_22) hok
          refine lv_aload_n hx hb dL_law_541 rfl (lv_at hl 5 rfl) ?_
          refine lv_iconst (v := (0 : Int32)) hx hb dL_law_542 (by decide) ?_
          refine va_lald hx hb hK hP 211 3 rfl rfl (vp_in_nI (n := 0) (by decide) (by decide)) dL_law_543 ?_
          refine lv_iload hx hb dL_law_544 (lv_at hl 0 rfl) ?_
          refine lv_i2l hx hb dL_law_546 rfl ?_
          refine W.lcmp hx hb dL_law_547 ?_
          refine lv_if_eq (tgt := 553) hx hb dL_law_548 (by decide) (fun c_23 => ?_) (fun c_23 => ?_)
          · have hF := hF.trans (if_pos c_23)
            have hok := Eq.mp (if_pos c_23) hok
            refine lv_goto (tgt := 3104) hx hb dL_law_553 (by decide) ?_
            have hP := fl_sub (cs := [[(qh0, .inr (11, [.ref (va 0), .ref (oa 0), .int q.1, .ref hih0, .ref pgh0, .ref nbh0, .int q.2.1, .int q.2.2]))], wSt G va u_15.2.1, wSt G oa o, [(hih0, .inr (7, [.int u_15.2.2.1.1, .int u_15.2.2.1.2, .ref hsh]))], wHs G hsh hsa u_15.2.2.2.1, [(pgh0, .inr (9, [.int pg.1, .int pg.2.1, .int pg.2.2.1, .int pg.2.2.2, .ref tbh0]))], [(tbh0, .inr (1, [.ref tbh1, .int (0 : Int32), .int tb.2.2.1, .int tb.2.2.2]))], [(tbh1, .inl (G.2.1 2, tb.1, .inl tb.2.1))], [(nbh0, .inr (1, [.ref nbh1, .int (0 : Int32), .int nb.2.2.1, .int nb.2.2.2]))], [(nbh1, .inl (G.2.1 2, nb.1, .inl nb.2.1))], wMo G dh0 dh1 dh2 dh3 dh4 dh5 dh6 dh7 u_19.2, [(owh, .inl (G.2.1 3, 1, .inr (.inl u_15.2.2.2.2)))], [(odh, .inl (G.2.1 4, 1, .inr (.inr (.inr (.inl od)))))]]) [1, 2, 6, 3, 4, 7, 8, 9, 10, 11, 0, 5, 12] rfl hP
            have hD := fl_subD (cs := [[(qh0, .inr (11, [.ref (va 0), .ref (oa 0), .int q.1, .ref hih0, .ref pgh0, .ref nbh0, .int q.2.1, .int q.2.2]))], wSt G va u_15.2.1, wSt G oa o, [(hih0, .inr (7, [.int u_15.2.2.1.1, .int u_15.2.2.1.2, .ref hsh]))], wHs G hsh hsa u_15.2.2.2.1, [(pgh0, .inr (9, [.int pg.1, .int pg.2.1, .int pg.2.2.1, .int pg.2.2.2, .ref tbh0]))], [(tbh0, .inr (1, [.ref tbh1, .int (0 : Int32), .int tb.2.2.1, .int tb.2.2.2]))], [(tbh1, .inl (G.2.1 2, tb.1, .inl tb.2.1))], [(nbh0, .inr (1, [.ref nbh1, .int (0 : Int32), .int nb.2.2.1, .int nb.2.2.2]))], [(nbh1, .inl (G.2.1 2, nb.1, .inl nb.2.1))], wMo G dh0 dh1 dh2 dh3 dh4 dh5 dh6 dh7 u_19.2, [(owh, .inl (G.2.1 3, 1, .inr (.inl u_15.2.2.2.2)))], [(odh, .inl (G.2.1 4, 1, .inr (.inr (.inr (.inl od)))))]]) [1, 2, 6, 3, 4, 7, 8, 9, 10, 11, 0, 5, 12] rfl rfl hD
            refine W.widen (k := kc + 22) (n := ks + 4206) (by omega) (by omega) ?_
            exact kk tbh1 nbh1 (q, u_15.2.1, o, u_15.2.2.1, u_15.2.2.2.1, pg, tb, nb, u_19.2, u_15.2.2.2.2, od) _ _ ls hF.symm (lv_sub hl [2, 3, 4, 5, 6, 7] rfl) hP hD hS
          · have hF := hF.trans (if_neg c_23)
            have hok := Eq.mp (if_neg c_23) hok
            exact hok.elim
      · have hF := hF.trans (if_neg c_21)
        have hok := Eq.mp (if_neg c_21) hok
        exact hok.elim
theorem dL_law_556 : decode cL_law 556 = .ok (.aload_n 1, 1) := by decide +kernel
theorem dL_law_557 : decode cL_law 557 = .ok (.aload_n 0, 1) := by decide +kernel
theorem dL_law_558 : decode cL_law 558 = .ok (.iload 5, 2) := by decide +kernel
theorem dL_law_560 : decode cL_law 560 = .ok (.iconst 1, 1) := by decide +kernel
theorem dL_law_561 : decode cL_law 561 = .ok (.iadd, 1) := by decide +kernel
theorem dL_law_562 : decode cL_law 562 = .ok (.iaload, 1) := by decide +kernel
theorem dL_law_563 : decode cL_law 563 = .ok (.aload_n 0, 1) := by decide +kernel
theorem dL_law_564 : decode cL_law 564 = .ok (.iload 5, 2) := by decide +kernel
theorem dL_law_566 : decode cL_law 566 = .ok (.iconst 2, 1) := by decide +kernel
theorem dL_law_567 : decode cL_law 567 = .ok (.iadd, 1) := by decide +kernel
theorem dL_law_568 : decode cL_law 568 = .ok (.iaload, 1) := by decide +kernel
theorem dL_law_569 : decode cL_law 569 = .ok (.aload_n 3, 1) := by decide +kernel
theorem dL_law_570 : decode cL_law 570 = .ok (.invokestatic 188, 3) := by decide +kernel
theorem gh_L_188_c : Cond.codeWith yL_liftException cL_liftException 5 (some .int) [(0, 17, 20, 21), (0, 17, 24, 33)] ∈ UW := uw 688 (by decide +kernel) rfl
theorem u_686 : Cond.methodLink RL 188 yL_liftException ∈ UW := uw 686 (by decide +kernel) rfl
theorem u_687 : Cond.static yL_liftException ∈ UW := uw 687 (by decide +kernel) rfl
theorem gh_L_188 : GoodIn UW (va_wsS RL 188 yL_liftException (Cond.codeWith yL_liftException cL_liftException 5 (some .int) [(0, 17, 20, 21), (0, 17, 24, 33)] :: UW)) := gSH u_686 u_687 u_64 gh_L_188_c
theorem hds_L_liftException : yL_liftException.cls ≠ "java/lang/invoke/MethodHandle" ∧ yL_liftException.cls ≠ "java/lang/invoke/VarHandle" ∧ (parseMethodDescriptor yL_liftException.desc).map (fun d => d.parameters.length) = some 4 := by decide +kernel
theorem dL_law_573 : decode cL_law 573 = .ok (.istore 6, 2) := by decide +kernel
theorem dL_law_575 : decode cL_law 575 = .ok (.aload_n 2, 1) := by decide +kernel
theorem dL_law_576 : decode cL_law 576 = .ok (.aload_n 0, 1) := by decide +kernel
theorem dL_law_577 : decode cL_law 577 = .ok (.iload 5, 2) := by decide +kernel
theorem dL_law_579 : decode cL_law 579 = .ok (.iconst 1, 1) := by decide +kernel
theorem dL_law_580 : decode cL_law 580 = .ok (.iadd, 1) := by decide +kernel
theorem dL_law_581 : decode cL_law 581 = .ok (.iaload, 1) := by decide +kernel
theorem dL_law_582 : decode cL_law 582 = .ok (.aload_n 0, 1) := by decide +kernel
theorem dL_law_583 : decode cL_law 583 = .ok (.iload 5, 2) := by decide +kernel
theorem dL_law_585 : decode cL_law 585 = .ok (.iconst 2, 1) := by decide +kernel
theorem dL_law_586 : decode cL_law 586 = .ok (.iadd, 1) := by decide +kernel
theorem dL_law_587 : decode cL_law 587 = .ok (.iaload, 1) := by decide +kernel
theorem dL_law_588 : decode cL_law 588 = .ok (.invokevirtual 191, 3) := by decide +kernel
theorem u_1800 : Cond.methodLink RL 191 yX10_liftException ∈ UW := uw 1800 (by decide +kernel) rfl
theorem u_1801 : Cond.instanceMethod yX10_liftException ∈ UW := uw 1801 (by decide +kernel) rfl
theorem u_1802 : Cond.selects RX10 yX10_liftException yX10_liftException ∈ UW := uw 1802 (by decide +kernel) rfl
theorem u_1803 : Cond.code yX10_liftException cX10_liftException 3 (some .boolean) ∈ UW := uw 1803 (by decide +kernel) rfl
theorem g_L_191 : GoodIn UW (wsV RL 191 RX10 yX10_liftException (wsU yX10_liftException cX10_liftException 3 (some .boolean))) := gV u_1800 u_1801 u_1802 u_77 u_1803
theorem hdv_X10_liftException : yX10_liftException.cls = RX10 ∧ yX10_liftException.cls ≠ "java/lang/invoke/MethodHandle" ∧ yX10_liftException.cls ≠ "java/lang/invoke/VarHandle" ∧ (parseMethodDescriptor yX10_liftException.desc).map (fun d => d.parameters.length) = some 2 := by decide +kernel
theorem dL_law_591 : decode cL_law 591 = .ok (.istore 7, 2) := by decide +kernel
theorem dL_law_593 : decode cL_law 593 = .ok (.aload_n 2, 1) := by decide +kernel
theorem dL_law_594 : decode cL_law 594 = .ok (.invokevirtual 177, 3) := by decide +kernel
theorem dL_law_597 : decode cL_law 597 = .ok (.iload 6, 2) := by decide +kernel
theorem dL_law_599 : decode cL_law 599 = .ok (.if_icmp .eq 5, 3) := by decide +kernel
theorem dL_law_604 : decode cL_law 604 = .ok (.iload 6, 2) := by decide +kernel
theorem dL_law_606 : decode cL_law 606 = .ok (.ifCond .ne 22, 3) := by decide +kernel
theorem dL_law_628 : decode cL_law 628 = .ok (.goto 2476, 3) := by decide +kernel
theorem dL_law_609 : decode cL_law 609 = .ok (.aload_n 3, 1) := by decide +kernel
theorem dL_law_610 : decode cL_law 610 = .ok (.iconst 0, 1) := by decide +kernel
theorem dL_law_611 : decode cL_law 611 = .ok (.laload, 1) := by decide +kernel
theorem dL_law_612 : decode cL_law 612 = .ok (.iload 7, 2) := by decide +kernel
theorem dL_law_614 : decode cL_law 614 = .ok (.ifCond .eq 7, 3) := by decide +kernel
theorem dL_law_621 : decode cL_law 621 = .ok (.lconst 0, 1) := by decide +kernel
theorem dL_law_622 : decode cL_law 622 = .ok (.lcmp, 1) := by decide +kernel
theorem dL_law_623 : decode cL_law 623 = .ok (.ifCond .eq 5, 3) := by decide +kernel
theorem dL_law_617 : decode cL_law 617 = .ok (.lconst 1, 1) := by decide +kernel
theorem dL_law_618 : decode cL_law 618 = .ok (.goto 4, 3) := by decide +kernel
def f_K3 (q : McV) (v : StV) (o : StV) (hi : HiV) (hs : Nat → StV) (pg : PrV) (tb : SbV) (nb : SbV) (d : MoV) (ow : Nat → Int64) (od : Nat → UInt64) (xs : Nat → Int32) (j : Nat) : LwT := (let u_3 : Int32 × StV × HiV × (Nat → StV) × (Nat → Int64) := (f_L_liftException q v hi hs (xs ((nI j) + (1 : Int32)).toNatClampNeg) (xs ((nI j) + (2 : Int32)).toNatClampNeg) ow); (let u_6 : Int32 × MoV := (f_X10_liftException d (xs ((nI j) + (1 : Int32)).toNatClampNeg) (xs ((nI j) + (2 : Int32)).toNatClampNeg)); (if (f_X10_thrown u_6.2) = u_3.1 then (if u_3.1 = (0 : Int32) then (if u_6.1 = (0 : Int32) then (if (lg_cmp (u_3.2.2.2.2 (0 : Int32).toNatClampNeg) (0 : Int64)) = (0 : Int32) then (q, u_3.2.1, o, u_3.2.2.1, u_3.2.2.2.1, pg, tb, nb, u_6.2, u_3.2.2.2.2, od) else (q, v, o, hi, hs, pg, tb, nb, d, ow, od)) else (if (lg_cmp (u_3.2.2.2.2 (0 : Int32).toNatClampNeg) (1 : Int64)) = (0 : Int32) then (q, u_3.2.1, o, u_3.2.2.1, u_3.2.2.2.1, pg, tb, nb, u_6.2, u_3.2.2.2.2, od) else (q, v, o, hi, hs, pg, tb, nb, d, ow, od))) else (q, u_3.2.1, o, u_3.2.2.1, u_3.2.2.2.1, pg, tb, nb, u_6.2, u_3.2.2.2.2, od)) else (q, v, o, hi, hs, pg, tb, nb, d, ow, od))))
def ok_K3 (q : McV) (v : StV) (o : StV) (hi : HiV) (hs : Nat → StV) (pg : PrV) (tb : SbV) (nb : SbV) (d : MoV) (ow : Nat → Int64) (od : Nat → UInt64) (xs : Nat → Int32) (j : Nat) : Prop := (ok_L_liftException q v hi hs (xs ((nI j) + (1 : Int32)).toNatClampNeg) (xs ((nI j) + (2 : Int32)).toNatClampNeg) ow ∧ (let u_3 : Int32 × StV × HiV × (Nat → StV) × (Nat → Int64) := (f_L_liftException q v hi hs (xs ((nI j) + (1 : Int32)).toNatClampNeg) (xs ((nI j) + (2 : Int32)).toNatClampNeg) ow); (ok_X10_liftException d (xs ((nI j) + (1 : Int32)).toNatClampNeg) (xs ((nI j) + (2 : Int32)).toNatClampNeg) ∧ (let u_6 : Int32 × MoV := (f_X10_liftException d (xs ((nI j) + (1 : Int32)).toNatClampNeg) (xs ((nI j) + (2 : Int32)).toNatClampNeg)); (if (f_X10_thrown u_6.2) = u_3.1 then (if u_3.1 = (0 : Int32) then (if u_6.1 = (0 : Int32) then (if (lg_cmp (u_3.2.2.2.2 (0 : Int32).toNatClampNeg) (0 : Int64)) = (0 : Int32) then True else False) else (if (lg_cmp (u_3.2.2.2.2 (0 : Int32).toNatClampNeg) (1 : Int64)) = (0 : Int32) then True else False)) else True) else False)))))
set_option maxHeartbeats 8000000 in
set_option maxRecDepth 100000 in
set_option linter.constructorNameAsVariable false in
theorem w_K3 {p : Program} {e : Env} {s : State} {m : MethodId} {below : List Frame} {meth : Method} {c : Code} {Q : State → Prop} (l : Launch) (hlf : l.stackTraces = false) (G : GG) (A : Nat → Prop) {b L : Nat} {xs : Nat → Int32} (hC : LCtx p s m c G A b L xs) (qh0 : Nat) (va : Nat → Nat) (oa : Nat → Nat) (hih0 : Nat) (hsh : Nat) (hsa : Nat → Nat → Nat) (pgh0 : Nat) (tbh0 : Nat) (tbh1 : Nat) (nbh0 : Nat) (nbh1 : Nat) (dh0 : Nat) (dh1 : Nat) (dh2 : Nat) (dh3 : Nat) (dh4 : Nat) (dh5 : Nat) (dh6 : Nat) (dh7 : Nat) (owh : Nat) (odh : Nat) {H : Heap} {locs : List Loc} {kc ks : Nat} {ls : Array Slot} (q : McV) (v : StV) (o : StV) (hi : HiV) (hs : Nat → StV) (pg : PrV) (tb : SbV) (nb : SbV) (d : MoV) (ow : Nat → Int64) (od : Nat → UInt64) (j : Nat) (hj : j + 6 ≤ L) (hL : L ≤ 3072) (hkc : kc + 22 ≤ 603072) (hks : ks + 4206 ≤ 7182442) (hok : ok_K3 q v o hi hs pg tb nb d ow od xs j) (hl : lv_has ls 9 [(0, .ref b), (1, .ref qh0), (2, .ref dh0), (3, .ref owh), (4, .ref odh), (5, .int (nI j))]) (hP : va_P G.1 vwCl (fl [[(qh0, .inr (11, [.ref (va 0), .ref (oa 0), .int q.1, .ref hih0, .ref pgh0, .ref nbh0, .int q.2.1, .int q.2.2]))], wSt G va v, wSt G oa o, [(hih0, .inr (7, [.int hi.1, .int hi.2, .ref hsh]))], wHs G hsh hsa hs, [(pgh0, .inr (9, [.int pg.1, .int pg.2.1, .int pg.2.2.1, .int pg.2.2.2, .ref tbh0]))], [(tbh0, .inr (1, [.ref tbh1, .int (0 : Int32), .int tb.2.2.1, .int tb.2.2.2]))], [(tbh1, .inl (G.2.1 2, tb.1, .inl tb.2.1))], [(nbh0, .inr (1, [.ref nbh1, .int (0 : Int32), .int nb.2.2.1, .int nb.2.2.2]))], [(nbh1, .inl (G.2.1 2, nb.1, .inl nb.2.1))], wMo G dh0 dh1 dh2 dh3 dh4 dh5 dh6 dh7 d, [(owh, .inl (G.2.1 3, 1, .inr (.inl ow)))], [(odh, .inl (G.2.1 4, 1, .inr (.inr (.inr (.inl od)))))]]) H) (hD : va_D A (fl [[(qh0, .inr (11, [.ref (va 0), .ref (oa 0), .int q.1, .ref hih0, .ref pgh0, .ref nbh0, .int q.2.1, .int q.2.2]))], wSt G va v, wSt G oa o, [(hih0, .inr (7, [.int hi.1, .int hi.2, .ref hsh]))], wHs G hsh hsa hs, [(pgh0, .inr (9, [.int pg.1, .int pg.2.1, .int pg.2.2.1, .int pg.2.2.2, .ref tbh0]))], [(tbh0, .inr (1, [.ref tbh1, .int (0 : Int32), .int tb.2.2.1, .int tb.2.2.2]))], [(tbh1, .inl (G.2.1 2, tb.1, .inl tb.2.1))], [(nbh0, .inr (1, [.ref nbh1, .int (0 : Int32), .int nb.2.2.1, .int nb.2.2.2]))], [(nbh1, .inl (G.2.1 2, nb.1, .inl nb.2.1))], wMo G dh0 dh1 dh2 dh3 dh4 dh5 dh6 dh7 d, [(owh, .inl (G.2.1 3, 1, .inr (.inl ow)))], [(odh, .inl (G.2.1 4, 1, .inr (.inr (.inr (.inl od)))))]])) (hS : va_S A s.heap H locs)
    (kk : ∀ (tbh1 nbh1 : Nat) (u : LwT) (H : Heap) (locs : List Loc) (ls : Array Slot), u = f_K3 q v o hi hs pg tb nb d ow od xs j → lv_has ls 9 [(0, .ref b), (1, .ref qh0), (2, .ref dh0), (3, .ref owh), (4, .ref odh), (5, .int (nI j))] → va_P G.1 vwCl (fl [[(qh0, .inr (11, [.ref (va 0), .ref (oa 0), .int u.1.1, .ref hih0, .ref pgh0, .ref nbh0, .int u.1.2.1, .int u.1.2.2]))], wSt G va u.2.1, wSt G oa u.2.2.1, [(hih0, .inr (7, [.int u.2.2.2.1.1, .int u.2.2.2.1.2, .ref hsh]))], wHs G hsh hsa u.2.2.2.2.1, [(pgh0, .inr (9, [.int u.2.2.2.2.2.1.1, .int u.2.2.2.2.2.1.2.1, .int u.2.2.2.2.2.1.2.2.1, .int u.2.2.2.2.2.1.2.2.2, .ref tbh0]))], [(tbh0, .inr (1, [.ref tbh1, .int (0 : Int32), .int u.2.2.2.2.2.2.1.2.2.1, .int u.2.2.2.2.2.2.1.2.2.2]))], [(tbh1, .inl (G.2.1 2, u.2.2.2.2.2.2.1.1, .inl u.2.2.2.2.2.2.1.2.1))], [(nbh0, .inr (1, [.ref nbh1, .int (0 : Int32), .int u.2.2.2.2.2.2.2.1.2.2.1, .int u.2.2.2.2.2.2.2.1.2.2.2]))], [(nbh1, .inl (G.2.1 2, u.2.2.2.2.2.2.2.1.1, .inl u.2.2.2.2.2.2.2.1.2.1))], wMo G dh0 dh1 dh2 dh3 dh4 dh5 dh6 dh7 u.2.2.2.2.2.2.2.2.1, [(owh, .inl (G.2.1 3, 1, .inr (.inl u.2.2.2.2.2.2.2.2.2.1)))], [(odh, .inl (G.2.1 4, 1, .inr (.inr (.inr (.inl u.2.2.2.2.2.2.2.2.2.2)))))]]) H → va_D A (fl [[(qh0, .inr (11, [.ref (va 0), .ref (oa 0), .int u.1.1, .ref hih0, .ref pgh0, .ref nbh0, .int u.1.2.1, .int u.1.2.2]))], wSt G va u.2.1, wSt G oa u.2.2.1, [(hih0, .inr (7, [.int u.2.2.2.1.1, .int u.2.2.2.1.2, .ref hsh]))], wHs G hsh hsa u.2.2.2.2.1, [(pgh0, .inr (9, [.int u.2.2.2.2.2.1.1, .int u.2.2.2.2.2.1.2.1, .int u.2.2.2.2.2.1.2.2.1, .int u.2.2.2.2.2.1.2.2.2, .ref tbh0]))], [(tbh0, .inr (1, [.ref tbh1, .int (0 : Int32), .int u.2.2.2.2.2.2.1.2.2.1, .int u.2.2.2.2.2.2.1.2.2.2]))], [(tbh1, .inl (G.2.1 2, u.2.2.2.2.2.2.1.1, .inl u.2.2.2.2.2.2.1.2.1))], [(nbh0, .inr (1, [.ref nbh1, .int (0 : Int32), .int u.2.2.2.2.2.2.2.1.2.2.1, .int u.2.2.2.2.2.2.2.1.2.2.2]))], [(nbh1, .inl (G.2.1 2, u.2.2.2.2.2.2.2.1.1, .inl u.2.2.2.2.2.2.2.1.2.1))], wMo G dh0 dh1 dh2 dh3 dh4 dh5 dh6 dh7 u.2.2.2.2.2.2.2.2.1, [(owh, .inl (G.2.1 3, 1, .inr (.inl u.2.2.2.2.2.2.2.2.2.1)))], [(odh, .inl (G.2.1 4, 1, .inr (.inr (.inr (.inl u.2.2.2.2.2.2.2.2.2.2)))))]]) → va_S A s.heap H locs → W p l e room_1 s m #[Value.ref b] below meth c H locs (kc + 22) (ks + 4206) Q (F0 m 3104 ls [])) :
    W p l e room_1 s m #[Value.ref b] below meth c H locs kc ks Q (F0 m 556 ls []) := by
  obtain ⟨hx, hb, hml, hown, hts, hK, hST, hA, hX, hbl, hbA⟩ := hC
  have hF : f_K3 q v o hi hs pg tb nb d ow od xs j = (let u_3 : Int32 × StV × HiV × (Nat → StV) × (Nat → Int64) := (f_L_liftException q v hi hs (xs ((nI j) + (1 : Int32)).toNatClampNeg) (xs ((nI j) + (2 : Int32)).toNatClampNeg) ow); (let u_6 : Int32 × MoV := (f_X10_liftException d (xs ((nI j) + (1 : Int32)).toNatClampNeg) (xs ((nI j) + (2 : Int32)).toNatClampNeg)); (if (f_X10_thrown u_6.2) = u_3.1 then (if u_3.1 = (0 : Int32) then (if u_6.1 = (0 : Int32) then (if (lg_cmp (u_3.2.2.2.2 (0 : Int32).toNatClampNeg) (0 : Int64)) = (0 : Int32) then (q, u_3.2.1, o, u_3.2.2.1, u_3.2.2.2.1, pg, tb, nb, u_6.2, u_3.2.2.2.2, od) else (q, v, o, hi, hs, pg, tb, nb, d, ow, od)) else (if (lg_cmp (u_3.2.2.2.2 (0 : Int32).toNatClampNeg) (1 : Int64)) = (0 : Int32) then (q, u_3.2.1, o, u_3.2.2.1, u_3.2.2.2.1, pg, tb, nb, u_6.2, u_3.2.2.2.2, od) else (q, v, o, hi, hs, pg, tb, nb, d, ow, od))) else (q, u_3.2.1, o, u_3.2.2.1, u_3.2.2.2.1, pg, tb, nb, u_6.2, u_3.2.2.2.2, od)) else (q, v, o, hi, hs, pg, tb, nb, d, ow, od)))) := rfl
  have hok : (ok_L_liftException q v hi hs (xs ((nI j) + (1 : Int32)).toNatClampNeg) (xs ((nI j) + (2 : Int32)).toNatClampNeg) ow ∧ (let u_3 : Int32 × StV × HiV × (Nat → StV) × (Nat → Int64) := (f_L_liftException q v hi hs (xs ((nI j) + (1 : Int32)).toNatClampNeg) (xs ((nI j) + (2 : Int32)).toNatClampNeg) ow); (ok_X10_liftException d (xs ((nI j) + (1 : Int32)).toNatClampNeg) (xs ((nI j) + (2 : Int32)).toNatClampNeg) ∧ (let u_6 : Int32 × MoV := (f_X10_liftException d (xs ((nI j) + (1 : Int32)).toNatClampNeg) (xs ((nI j) + (2 : Int32)).toNatClampNeg)); (if (f_X10_thrown u_6.2) = u_3.1 then (if u_3.1 = (0 : Int32) then (if u_6.1 = (0 : Int32) then (if (lg_cmp (u_3.2.2.2.2 (0 : Int32).toNatClampNeg) (0 : Int64)) = (0 : Int32) then True else False) else (if (lg_cmp (u_3.2.2.2.2 (0 : Int32).toNatClampNeg) (1 : Int64)) = (0 : Int32) then True else False)) else True) else False))))) := hok
  refine lv_aload_n hx hb dL_law_556 rfl (lv_at hl 1 rfl) ?_
  refine lv_aload_n hx hb dL_law_557 rfl (lv_at hl 0 rfl) ?_
  refine lv_iload hx hb dL_law_558 (lv_at hl 5 rfl) ?_
  refine lv_iconst (v := (1 : Int32)) hx hb dL_law_560 (by decide) ?_
  refine lv_iadd hx hb dL_law_561 ?_
  refine va_sld hx hb hX hbl hbA hS (lw_in (k := 1) q_1 hj hL (by decide)) dL_law_562 ?_
  refine lv_aload_n hx hb dL_law_563 rfl (lv_at hl 0 rfl) ?_
  refine lv_iload hx hb dL_law_564 (lv_at hl 5 rfl) ?_
  refine lv_iconst (v := (2 : Int32)) hx hb dL_law_566 (by decide) ?_
  refine lv_iadd hx hb dL_law_567 ?_
  refine va_sld hx hb hX hbl hbA hS (lw_in (k := 2) q_2 hj hL (by decide)) dL_law_568 ?_
  refine lv_aload_n hx hb dL_law_569 rfl (lv_at hl 3 rfl) ?_
  have k_1 := hok.1
  have hok := hok.2
  refine w_SH (own := RL) (cs := [[(qh0, .inr (11, [.ref (va 0), .ref (oa 0), .int q.1, .ref hih0, .ref pgh0, .ref nbh0, .int q.2.1, .int q.2.2]))], wSt G va v, [(hih0, .inr (7, [.int hi.1, .int hi.2, .ref hsh]))], wHs G hsh hsa hs, [(owh, .inl (G.2.1 3, 1, .inr (.inl ow)))]]) (rs := [wSt G oa o, [(pgh0, .inr (9, [.int pg.1, .int pg.2.1, .int pg.2.2.1, .int pg.2.2.2, .ref tbh0]))], [(tbh0, .inr (1, [.ref tbh1, .int (0 : Int32), .int tb.2.2.1, .int tb.2.2.2]))], [(tbh1, .inl (G.2.1 2, tb.1, .inl tb.2.1))], [(nbh0, .inr (1, [.ref nbh1, .int (0 : Int32), .int nb.2.2.1, .int nb.2.2.2]))], [(nbh1, .inl (G.2.1 2, nb.1, .inl nb.2.1))], wMo G dh0 dh1 dh2 dh3 dh4 dh5 dh6 dh7 d, [(odh, .inl (G.2.1 4, 1, .inr (.inr (.inr (.inl od)))))]]) (As := [.ref qh0, .int (xs ((nI j) + (1 : Int32)).toNatClampNeg), .int (xs ((nI j) + (2 : Int32)).toNatClampNeg), .ref owh]) (rest := []) (c_L_liftException l hlf G qh0 (oa 0) pgh0 nbh0 va hih0 hsh hsa owh H.size q v hi hs (xs ((nI j) + (1 : Int32)).toNatClampNeg) (xs ((nI j) + (2 : Int32)).toNatClampNeg) ow k_1) ⟨hx, hb, hml, hown, hts⟩ gh_L_188 hds_L_liftException hK hST hS hP hD hA [0, 1, 3, 4, 11] [2, 5, 6, 7, 8, 9, 10, 12] rfl rfl rfl ⟨Nat.le_of_ble_eq_true rfl, Nat.le_of_ble_eq_true rfl⟩ ⟨(by show _ ≤ 603072; omega), (by show _ ≤ 7182442; omega)⟩ rfl hl.1 rfl (Nat.le_of_ble_eq_true rfl) dL_law_570 (fun u_3 H locs huu hP hD hS => ?_)
  have eu_3 := huu
  have hP : va_P G.1 vwCl (fl [[(qh0, .inr (11, [.ref (va 0), .ref (oa 0), .int q.1, .ref hih0, .ref pgh0, .ref nbh0, .int q.2.1, .int q.2.2]))], wSt G va u_3.2.1, [(hih0, .inr (7, [.int u_3.2.2.1.1, .int u_3.2.2.1.2, .ref hsh]))], wHs G hsh hsa u_3.2.2.2.1, [(owh, .inl (G.2.1 3, 1, .inr (.inl u_3.2.2.2.2)))], wSt G oa o, [(pgh0, .inr (9, [.int pg.1, .int pg.2.1, .int pg.2.2.1, .int pg.2.2.2, .ref tbh0]))], [(tbh0, .inr (1, [.ref tbh1, .int (0 : Int32), .int tb.2.2.1, .int tb.2.2.2]))], [(tbh1, .inl (G.2.1 2, tb.1, .inl tb.2.1))], [(nbh0, .inr (1, [.ref nbh1, .int (0 : Int32), .int nb.2.2.1, .int nb.2.2.2]))], [(nbh1, .inl (G.2.1 2, nb.1, .inl nb.2.1))], wMo G dh0 dh1 dh2 dh3 dh4 dh5 dh6 dh7 d, [(odh, .inl (G.2.1 4, 1, .inr (.inr (.inr (.inl od)))))]]) H := hP
  have hD : va_D A (fl [[(qh0, .inr (11, [.ref (va 0), .ref (oa 0), .int q.1, .ref hih0, .ref pgh0, .ref nbh0, .int q.2.1, .int q.2.2]))], wSt G va u_3.2.1, [(hih0, .inr (7, [.int u_3.2.2.1.1, .int u_3.2.2.1.2, .ref hsh]))], wHs G hsh hsa u_3.2.2.2.1, [(owh, .inl (G.2.1 3, 1, .inr (.inl u_3.2.2.2.2)))], wSt G oa o, [(pgh0, .inr (9, [.int pg.1, .int pg.2.1, .int pg.2.2.1, .int pg.2.2.2, .ref tbh0]))], [(tbh0, .inr (1, [.ref tbh1, .int (0 : Int32), .int tb.2.2.1, .int tb.2.2.2]))], [(tbh1, .inl (G.2.1 2, tb.1, .inl tb.2.1))], [(nbh0, .inr (1, [.ref nbh1, .int (0 : Int32), .int nb.2.2.1, .int nb.2.2.2]))], [(nbh1, .inl (G.2.1 2, nb.1, .inl nb.2.1))], wMo G dh0 dh1 dh2 dh3 dh4 dh5 dh6 dh7 d, [(odh, .inl (G.2.1 4, 1, .inr (.inr (.inr (.inl od)))))]]) := hD
  refine W.eq (g2 := F0 m 573 ls [.int u_3.1]) rfl ?_
  have hF : f_K3 q v o hi hs pg tb nb d ow od xs j = (let u_6 : Int32 × MoV := (f_X10_liftException d (xs ((nI j) + (1 : Int32)).toNatClampNeg) (xs ((nI j) + (2 : Int32)).toNatClampNeg)); (if (f_X10_thrown u_6.2) = u_3.1 then (if u_3.1 = (0 : Int32) then (if u_6.1 = (0 : Int32) then (if (lg_cmp (u_3.2.2.2.2 (0 : Int32).toNatClampNeg) (0 : Int64)) = (0 : Int32) then (q, u_3.2.1, o, u_3.2.2.1, u_3.2.2.2.1, pg, tb, nb, u_6.2, u_3.2.2.2.2, od) else (q, v, o, hi, hs, pg, tb, nb, d, ow, od)) else (if (lg_cmp (u_3.2.2.2.2 (0 : Int32).toNatClampNeg) (1 : Int64)) = (0 : Int32) then (q, u_3.2.1, o, u_3.2.2.1, u_3.2.2.2.1, pg, tb, nb, u_6.2, u_3.2.2.2.2, od) else (q, v, o, hi, hs, pg, tb, nb, d, ow, od))) else (q, u_3.2.1, o, u_3.2.2.1, u_3.2.2.2.1, pg, tb, nb, u_6.2, u_3.2.2.2.2, od)) else (q, v, o, hi, hs, pg, tb, nb, d, ow, od))) := by subst eu_3; exact hF
  have hok : (ok_X10_liftException d (xs ((nI j) + (1 : Int32)).toNatClampNeg) (xs ((nI j) + (2 : Int32)).toNatClampNeg) ∧ (let u_6 : Int32 × MoV := (f_X10_liftException d (xs ((nI j) + (1 : Int32)).toNatClampNeg) (xs ((nI j) + (2 : Int32)).toNatClampNeg)); (if (f_X10_thrown u_6.2) = u_3.1 then (if u_3.1 = (0 : Int32) then (if u_6.1 = (0 : Int32) then (if (lg_cmp (u_3.2.2.2.2 (0 : Int32).toNatClampNeg) (0 : Int64)) = (0 : Int32) then True else False) else (if (lg_cmp (u_3.2.2.2.2 (0 : Int32).toNatClampNeg) (1 : Int64)) = (0 : Int32) then True else False)) else True) else False))) := by subst eu_3; exact hok
  refine lv_istore (lv' := [(6, .int u_3.1), (0, .ref b), (1, .ref qh0), (2, .ref dh0), (3, .ref owh), (4, .ref odh), (5, .int (nI j))]) hx hb dL_law_573 hl (by decide) rfl (fun ls hl => ?_)
  refine lv_aload_n hx hb dL_law_575 rfl (lv_at hl 3 rfl) ?_
  refine lv_aload_n hx hb dL_law_576 rfl (lv_at hl 1 rfl) ?_
  refine lv_iload hx hb dL_law_577 (lv_at hl 6 rfl) ?_
  refine lv_iconst (v := (1 : Int32)) hx hb dL_law_579 (by decide) ?_
  refine lv_iadd hx hb dL_law_580 ?_
  refine va_sld hx hb hX hbl hbA hS (lw_in (k := 1) q_1 hj hL (by decide)) dL_law_581 ?_
  refine lv_aload_n hx hb dL_law_582 rfl (lv_at hl 1 rfl) ?_
  refine lv_iload hx hb dL_law_583 (lv_at hl 6 rfl) ?_
  refine lv_iconst (v := (2 : Int32)) hx hb dL_law_585 (by decide) ?_
  refine lv_iadd hx hb dL_law_586 ?_
  refine va_sld hx hb hX hbl hbA hS (lw_in (k := 2) q_2 hj hL (by decide)) dL_law_587 ?_
  have k_4 := hok.1
  have hok := hok.2
  refine w_V (own := RL) (cs := [wMo G dh0 dh1 dh2 dh3 dh4 dh5 dh6 dh7 d]) (rs := [[(qh0, .inr (11, [.ref (va 0), .ref (oa 0), .int q.1, .ref hih0, .ref pgh0, .ref nbh0, .int q.2.1, .int q.2.2]))], wSt G va u_3.2.1, [(hih0, .inr (7, [.int u_3.2.2.1.1, .int u_3.2.2.1.2, .ref hsh]))], wHs G hsh hsa u_3.2.2.2.1, [(owh, .inl (G.2.1 3, 1, .inr (.inl u_3.2.2.2.2)))], wSt G oa o, [(pgh0, .inr (9, [.int pg.1, .int pg.2.1, .int pg.2.2.1, .int pg.2.2.2, .ref tbh0]))], [(tbh0, .inr (1, [.ref tbh1, .int (0 : Int32), .int tb.2.2.1, .int tb.2.2.2]))], [(tbh1, .inl (G.2.1 2, tb.1, .inl tb.2.1))], [(nbh0, .inr (1, [.ref nbh1, .int (0 : Int32), .int nb.2.2.1, .int nb.2.2.2]))], [(nbh1, .inl (G.2.1 2, nb.1, .inl nb.2.1))], [(odh, .inl (G.2.1 4, 1, .inr (.inr (.inr (.inl od)))))]]) (As := [.int (xs ((nI j) + (1 : Int32)).toNatClampNeg), .int (xs ((nI j) + (2 : Int32)).toNatClampNeg)]) (rest := []) (c_X10_liftException l G dh0 dh1 dh2 dh3 dh4 dh5 dh6 dh7 H.size d (xs ((nI j) + (1 : Int32)).toNatClampNeg) (xs ((nI j) + (2 : Int32)).toNatClampNeg) k_4) ⟨hx, hb, hml, hown, hts⟩ g_L_191 hdv_X10_liftException hK hST hS hP hD hA [11] [0, 1, 2, 3, 4, 5, 6, 7, 8, 9, 10, 12] rfl rfl rfl (k0 := 0) rfl rfl rfl ⟨Nat.le_of_ble_eq_true rfl, Nat.le_of_ble_eq_true rfl⟩ ⟨(by show _ ≤ 603072; omega), (by show _ ≤ 7182442; omega)⟩ rfl hl.1 rfl (Nat.le_of_ble_eq_true rfl) dL_law_588 (fun u_6 H locs huu hP hD hS => ?_)
  obtain ⟨huu, b_5⟩ := huu
  rw [← huu] at b_5
  have eu_6 := huu
  have hP : va_P G.1 vwCl (fl [wMo G dh0 dh1 dh2 dh3 dh4 dh5 dh6 dh7 u_6.2, [(qh0, .inr (11, [.ref (va 0), .ref (oa 0), .int q.1, .ref hih0, .ref pgh0, .ref nbh0, .int q.2.1, .int q.2.2]))], wSt G va u_3.2.1, [(hih0, .inr (7, [.int u_3.2.2.1.1, .int u_3.2.2.1.2, .ref hsh]))], wHs G hsh hsa u_3.2.2.2.1, [(owh, .inl (G.2.1 3, 1, .inr (.inl u_3.2.2.2.2)))], wSt G oa o, [(pgh0, .inr (9, [.int pg.1, .int pg.2.1, .int pg.2.2.1, .int pg.2.2.2, .ref tbh0]))], [(tbh0, .inr (1, [.ref tbh1, .int (0 : Int32), .int tb.2.2.1, .int tb.2.2.2]))], [(tbh1, .inl (G.2.1 2, tb.1, .inl tb.2.1))], [(nbh0, .inr (1, [.ref nbh1, .int (0 : Int32), .int nb.2.2.1, .int nb.2.2.2]))], [(nbh1, .inl (G.2.1 2, nb.1, .inl nb.2.1))], [(odh, .inl (G.2.1 4, 1, .inr (.inr (.inr (.inl od)))))]]) H := hP
  have hD : va_D A (fl [wMo G dh0 dh1 dh2 dh3 dh4 dh5 dh6 dh7 u_6.2, [(qh0, .inr (11, [.ref (va 0), .ref (oa 0), .int q.1, .ref hih0, .ref pgh0, .ref nbh0, .int q.2.1, .int q.2.2]))], wSt G va u_3.2.1, [(hih0, .inr (7, [.int u_3.2.2.1.1, .int u_3.2.2.1.2, .ref hsh]))], wHs G hsh hsa u_3.2.2.2.1, [(owh, .inl (G.2.1 3, 1, .inr (.inl u_3.2.2.2.2)))], wSt G oa o, [(pgh0, .inr (9, [.int pg.1, .int pg.2.1, .int pg.2.2.1, .int pg.2.2.2, .ref tbh0]))], [(tbh0, .inr (1, [.ref tbh1, .int (0 : Int32), .int tb.2.2.1, .int tb.2.2.2]))], [(tbh1, .inl (G.2.1 2, tb.1, .inl tb.2.1))], [(nbh0, .inr (1, [.ref nbh1, .int (0 : Int32), .int nb.2.2.1, .int nb.2.2.2]))], [(nbh1, .inl (G.2.1 2, nb.1, .inl nb.2.1))], [(odh, .inl (G.2.1 4, 1, .inr (.inr (.inr (.inl od)))))]]) := hD
  refine W.eq (g2 := F0 m 591 ls [.int u_6.1]) rfl ?_
  have hF : f_K3 q v o hi hs pg tb nb d ow od xs j = (if (f_X10_thrown u_6.2) = u_3.1 then (if u_3.1 = (0 : Int32) then (if u_6.1 = (0 : Int32) then (if (lg_cmp (u_3.2.2.2.2 (0 : Int32).toNatClampNeg) (0 : Int64)) = (0 : Int32) then (q, u_3.2.1, o, u_3.2.2.1, u_3.2.2.2.1, pg, tb, nb, u_6.2, u_3.2.2.2.2, od) else (q, v, o, hi, hs, pg, tb, nb, d, ow, od)) else (if (lg_cmp (u_3.2.2.2.2 (0 : Int32).toNatClampNeg) (1 : Int64)) = (0 : Int32) then (q, u_3.2.1, o, u_3.2.2.1, u_3.2.2.2.1, pg, tb, nb, u_6.2, u_3.2.2.2.2, od) else (q, v, o, hi, hs, pg, tb, nb, d, ow, od))) else (q, u_3.2.1, o, u_3.2.2.1, u_3.2.2.2.1, pg, tb, nb, u_6.2, u_3.2.2.2.2, od)) else (q, v, o, hi, hs, pg, tb, nb, d, ow, od)) := by subst eu_6; exact hF
  have hok : (if (f_X10_thrown u_6.2) = u_3.1 then (if u_3.1 = (0 : Int32) then (if u_6.1 = (0 : Int32) then (if (lg_cmp (u_3.2.2.2.2 (0 : Int32).toNatClampNeg) (0 : Int64)) = (0 : Int32) then True else False) else (if (lg_cmp (u_3.2.2.2.2 (0 : Int32).toNatClampNeg) (1 : Int64)) = (0 : Int32) then True else False)) else True) else False) := by subst eu_6; exact hok
  refine lv_istore (lv' := [(7, .int u_6.1), (6, .int u_3.1), (0, .ref b), (1, .ref qh0), (2, .ref dh0), (3, .ref owh), (4, .ref odh), (5, .int (nI j))]) hx hb dL_law_591 hl (by decide) rfl (fun ls hl => ?_)
  refine lv_aload_n hx hb dL_law_593 rfl (lv_at hl 4 rfl) ?_
  refine r_V (own := RL) (v := (some (.int (f_X10_thrown u_6.2)))) (st1 := [.int (f_X10_thrown u_6.2)]) (As := []) (rest := []) (c_X10_thrown l G dh0 dh1 dh2 dh3 dh4 dh5 dh6 dh7 u_6.2) ⟨hx, hb, hml, hown, hts⟩ g_L_177 hdv_X10_thrown hK hST hS hP [0, 1, 2, 3, 4, 5, 6, 7] rfl (k0 := 0) rfl rfl rfl ⟨Nat.le_of_ble_eq_true rfl, Nat.le_of_ble_eq_true rfl⟩ ⟨(by show _ ≤ 603072; omega), (by show _ ≤ 7182442; omega)⟩ rfl hl.1 rfl (Nat.le_of_ble_eq_true rfl) dL_law_594 rfl (fun b_7 => ?_)
  refine lv_iload hx hb dL_law_597 (lv_at hl 1 rfl) ?_
  refine lv_icmp_eq (tgt := 604) hx hb dL_law_599 (by decide) (fun c_8 => ?_) (fun c_8 => ?_)
  · have hF := hF.trans (if_pos c_8)
    have hok := Eq.mp (if_pos c_8) hok
    refine lv_iload hx hb dL_law_604 (lv_at hl 1 rfl) ?_
    refine lv_if_ne (tgt := 628) hx hb dL_law_606 (by decide) (fun c_9 => ?_) (fun c_9 => ?_)
    · have hF := hF.trans (if_neg c_9)
      have hok := Eq.mp (if_neg c_9) hok
      refine lv_goto (tgt := 3104) hx hb dL_law_628 (by decide) ?_
      have hP := fl_sub (cs := [[(qh0, .inr (11, [.ref (va 0), .ref (oa 0), .int q.1, .ref hih0, .ref pgh0, .ref nbh0, .int q.2.1, .int q.2.2]))], wSt G va u_3.2.1, wSt G oa o, [(hih0, .inr (7, [.int u_3.2.2.1.1, .int u_3.2.2.1.2, .ref hsh]))], wHs G hsh hsa u_3.2.2.2.1, [(pgh0, .inr (9, [.int pg.1, .int pg.2.1, .int pg.2.2.1, .int pg.2.2.2, .ref tbh0]))], [(tbh0, .inr (1, [.ref tbh1, .int (0 : Int32), .int tb.2.2.1, .int tb.2.2.2]))], [(tbh1, .inl (G.2.1 2, tb.1, .inl tb.2.1))], [(nbh0, .inr (1, [.ref nbh1, .int (0 : Int32), .int nb.2.2.1, .int nb.2.2.2]))], [(nbh1, .inl (G.2.1 2, nb.1, .inl nb.2.1))], wMo G dh0 dh1 dh2 dh3 dh4 dh5 dh6 dh7 u_6.2, [(owh, .inl (G.2.1 3, 1, .inr (.inl u_3.2.2.2.2)))], [(odh, .inl (G.2.1 4, 1, .inr (.inr (.inr (.inl od)))))]]) [1, 2, 6, 3, 4, 7, 8, 9, 10, 11, 0, 5, 12] rfl hP
      have hD := fl_subD (cs := [[(qh0, .inr (11, [.ref (va 0), .ref (oa 0), .int q.1, .ref hih0, .ref pgh0, .ref nbh0, .int q.2.1, .int q.2.2]))], wSt G va u_3.2.1, wSt G oa o, [(hih0, .inr (7, [.int u_3.2.2.1.1, .int u_3.2.2.1.2, .ref hsh]))], wHs G hsh hsa u_3.2.2.2.1, [(pgh0, .inr (9, [.int pg.1, .int pg.2.1, .int pg.2.2.1, .int pg.2.2.2, .ref tbh0]))], [(tbh0, .inr (1, [.ref tbh1, .int (0 : Int32), .int tb.2.2.1, .int tb.2.2.2]))], [(tbh1, .inl (G.2.1 2, tb.1, .inl tb.2.1))], [(nbh0, .inr (1, [.ref nbh1, .int (0 : Int32), .int nb.2.2.1, .int nb.2.2.2]))], [(nbh1, .inl (G.2.1 2, nb.1, .inl nb.2.1))], wMo G dh0 dh1 dh2 dh3 dh4 dh5 dh6 dh7 u_6.2, [(owh, .inl (G.2.1 3, 1, .inr (.inl u_3.2.2.2.2)))], [(odh, .inl (G.2.1 4, 1, .inr (.inr (.inr (.inl od)))))]]) [1, 2, 6, 3, 4, 7, 8, 9, 10, 11, 0, 5, 12] rfl rfl hD
      refine W.widen (k := kc + 22) (n := ks + 4206) (by omega) (by omega) ?_
      exact kk tbh1 nbh1 (q, u_3.2.1, o, u_3.2.2.1, u_3.2.2.2.1, pg, tb, nb, u_6.2, u_3.2.2.2.2, od) _ _ ls hF.symm (lv_sub hl [2, 3, 4, 5, 6, 7] rfl) hP hD hS
    · have hF := hF.trans (if_pos c_9)
      have hok := Eq.mp (if_pos c_9) hok
      refine lv_aload_n hx hb dL_law_609 rfl (lv_at hl 5 rfl) ?_
      refine lv_iconst (v := (0 : Int32)) hx hb dL_law_610 (by decide) ?_
      refine va_lald hx hb hK hP 211 3 rfl rfl (vp_in_nI (n := 0) (by decide) (by decide)) dL_law_611 ?_
      refine lv_iload hx hb dL_law_612 (lv_at hl 0 rfl) ?_
      refine lv_if_eq (tgt := 621) hx hb dL_law_614 (by decide) (fun c_10 => ?_) (fun c_10 => ?_)
      · have hF := hF.trans (if_pos c_10)
        have hok := Eq.mp (if_pos c_10) hok
        refine lv_lconst (v := (0 : Int64)) hx hb dL_law_621 (by decide) ?_
        refine W.lcmp hx hb dL_law_622 ?_
        refine lv_if_eq (tgt := 628) hx hb dL_law_623 (by decide) (fun c_11 => ?_) (fun c_11 => ?_)
        · have hF := hF.trans (if_pos c_11)
          have hok := Eq.mp (if_pos c_11) hok
          refine lv_goto (tgt := 3104) hx hb dL_law_628 (by decide) ?_
          have hP := fl_sub (cs := [[(qh0, .inr (11, [.ref (va 0), .ref (oa 0), .int q.1, .ref hih0, .ref pgh0, .ref nbh0, .int q.2.1, .int q.2.2]))], wSt G va u_3.2.1, wSt G oa o, [(hih0, .inr (7, [.int u_3.2.2.1.1, .int u_3.2.2.1.2, .ref hsh]))], wHs G hsh hsa u_3.2.2.2.1, [(pgh0, .inr (9, [.int pg.1, .int pg.2.1, .int pg.2.2.1, .int pg.2.2.2, .ref tbh0]))], [(tbh0, .inr (1, [.ref tbh1, .int (0 : Int32), .int tb.2.2.1, .int tb.2.2.2]))], [(tbh1, .inl (G.2.1 2, tb.1, .inl tb.2.1))], [(nbh0, .inr (1, [.ref nbh1, .int (0 : Int32), .int nb.2.2.1, .int nb.2.2.2]))], [(nbh1, .inl (G.2.1 2, nb.1, .inl nb.2.1))], wMo G dh0 dh1 dh2 dh3 dh4 dh5 dh6 dh7 u_6.2, [(owh, .inl (G.2.1 3, 1, .inr (.inl u_3.2.2.2.2)))], [(odh, .inl (G.2.1 4, 1, .inr (.inr (.inr (.inl od)))))]]) [1, 2, 6, 3, 4, 7, 8, 9, 10, 11, 0, 5, 12] rfl hP
          have hD := fl_subD (cs := [[(qh0, .inr (11, [.ref (va 0), .ref (oa 0), .int q.1, .ref hih0, .ref pgh0, .ref nbh0, .int q.2.1, .int q.2.2]))], wSt G va u_3.2.1, wSt G oa o, [(hih0, .inr (7, [.int u_3.2.2.1.1, .int u_3.2.2.1.2, .ref hsh]))], wHs G hsh hsa u_3.2.2.2.1, [(pgh0, .inr (9, [.int pg.1, .int pg.2.1, .int pg.2.2.1, .int pg.2.2.2, .ref tbh0]))], [(tbh0, .inr (1, [.ref tbh1, .int (0 : Int32), .int tb.2.2.1, .int tb.2.2.2]))], [(tbh1, .inl (G.2.1 2, tb.1, .inl tb.2.1))], [(nbh0, .inr (1, [.ref nbh1, .int (0 : Int32), .int nb.2.2.1, .int nb.2.2.2]))], [(nbh1, .inl (G.2.1 2, nb.1, .inl nb.2.1))], wMo G dh0 dh1 dh2 dh3 dh4 dh5 dh6 dh7 u_6.2, [(owh, .inl (G.2.1 3, 1, .inr (.inl u_3.2.2.2.2)))], [(odh, .inl (G.2.1 4, 1, .inr (.inr (.inr (.inl od)))))]]) [1, 2, 6, 3, 4, 7, 8, 9, 10, 11, 0, 5, 12] rfl rfl hD
          refine W.widen (k := kc + 22) (n := ks + 4206) (by omega) (by omega) ?_
          exact kk tbh1 nbh1 (q, u_3.2.1, o, u_3.2.2.1, u_3.2.2.2.1, pg, tb, nb, u_6.2, u_3.2.2.2.2, od) _ _ ls hF.symm (lv_sub hl [2, 3, 4, 5, 6, 7] rfl) hP hD hS
        · have hF := hF.trans (if_neg c_11)
          have hok := Eq.mp (if_neg c_11) hok
          exact hok.elim
      · have hF := hF.trans (if_neg c_10)
        have hok := Eq.mp (if_neg c_10) hok
        refine lv_lconst (v := (1 : Int64)) hx hb dL_law_617 (by decide) ?_
        refine lv_goto (tgt := 622) hx hb dL_law_618 (by decide) ?_
        refine W.lcmp hx hb dL_law_622 ?_
        refine lv_if_eq (tgt := 628) hx hb dL_law_623 (by decide) (fun c_12 => ?_) (fun c_12 => ?_)
        · have hF := hF.trans (if_pos c_12)
          have hok := Eq.mp (if_pos c_12) hok
          refine lv_goto (tgt := 3104) hx hb dL_law_628 (by decide) ?_
          have hP := fl_sub (cs := [[(qh0, .inr (11, [.ref (va 0), .ref (oa 0), .int q.1, .ref hih0, .ref pgh0, .ref nbh0, .int q.2.1, .int q.2.2]))], wSt G va u_3.2.1, wSt G oa o, [(hih0, .inr (7, [.int u_3.2.2.1.1, .int u_3.2.2.1.2, .ref hsh]))], wHs G hsh hsa u_3.2.2.2.1, [(pgh0, .inr (9, [.int pg.1, .int pg.2.1, .int pg.2.2.1, .int pg.2.2.2, .ref tbh0]))], [(tbh0, .inr (1, [.ref tbh1, .int (0 : Int32), .int tb.2.2.1, .int tb.2.2.2]))], [(tbh1, .inl (G.2.1 2, tb.1, .inl tb.2.1))], [(nbh0, .inr (1, [.ref nbh1, .int (0 : Int32), .int nb.2.2.1, .int nb.2.2.2]))], [(nbh1, .inl (G.2.1 2, nb.1, .inl nb.2.1))], wMo G dh0 dh1 dh2 dh3 dh4 dh5 dh6 dh7 u_6.2, [(owh, .inl (G.2.1 3, 1, .inr (.inl u_3.2.2.2.2)))], [(odh, .inl (G.2.1 4, 1, .inr (.inr (.inr (.inl od)))))]]) [1, 2, 6, 3, 4, 7, 8, 9, 10, 11, 0, 5, 12] rfl hP
          have hD := fl_subD (cs := [[(qh0, .inr (11, [.ref (va 0), .ref (oa 0), .int q.1, .ref hih0, .ref pgh0, .ref nbh0, .int q.2.1, .int q.2.2]))], wSt G va u_3.2.1, wSt G oa o, [(hih0, .inr (7, [.int u_3.2.2.1.1, .int u_3.2.2.1.2, .ref hsh]))], wHs G hsh hsa u_3.2.2.2.1, [(pgh0, .inr (9, [.int pg.1, .int pg.2.1, .int pg.2.2.1, .int pg.2.2.2, .ref tbh0]))], [(tbh0, .inr (1, [.ref tbh1, .int (0 : Int32), .int tb.2.2.1, .int tb.2.2.2]))], [(tbh1, .inl (G.2.1 2, tb.1, .inl tb.2.1))], [(nbh0, .inr (1, [.ref nbh1, .int (0 : Int32), .int nb.2.2.1, .int nb.2.2.2]))], [(nbh1, .inl (G.2.1 2, nb.1, .inl nb.2.1))], wMo G dh0 dh1 dh2 dh3 dh4 dh5 dh6 dh7 u_6.2, [(owh, .inl (G.2.1 3, 1, .inr (.inl u_3.2.2.2.2)))], [(odh, .inl (G.2.1 4, 1, .inr (.inr (.inr (.inl od)))))]]) [1, 2, 6, 3, 4, 7, 8, 9, 10, 11, 0, 5, 12] rfl rfl hD
          refine W.widen (k := kc + 22) (n := ks + 4206) (by omega) (by omega) ?_
          exact kk tbh1 nbh1 (q, u_3.2.1, o, u_3.2.2.1, u_3.2.2.2.1, pg, tb, nb, u_6.2, u_3.2.2.2.2, od) _ _ ls hF.symm (lv_sub hl [2, 3, 4, 5, 6, 7] rfl) hP hD hS
        · have hF := hF.trans (if_neg c_12)
          have hok := Eq.mp (if_neg c_12) hok
          exact hok.elim
  · have hF := hF.trans (if_neg c_8)
    have hok := Eq.mp (if_neg c_8) hok
    exact hok.elim
theorem dL_law_631 : decode cL_law 631 = .ok (.aload_n 1, 1) := by decide +kernel
theorem dL_law_632 : decode cL_law 632 = .ok (.aload_n 0, 1) := by decide +kernel
theorem dL_law_633 : decode cL_law 633 = .ok (.iload 5, 2) := by decide +kernel
theorem dL_law_635 : decode cL_law 635 = .ok (.iconst 1, 1) := by decide +kernel
theorem dL_law_636 : decode cL_law 636 = .ok (.iadd, 1) := by decide +kernel
theorem dL_law_637 : decode cL_law 637 = .ok (.iaload, 1) := by decide +kernel
theorem dL_law_638 : decode cL_law 638 = .ok (.aload_n 3, 1) := by decide +kernel
theorem dL_law_639 : decode cL_law 639 = .ok (.invokestatic 192, 3) := by decide +kernel
theorem gh_L_192_c : Cond.codeWith yL_setCycle cL_setCycle 4 (some .int) [(0, 9, 12, 13)] ∈ UW := uw 714 (by decide +kernel) rfl
theorem u_712 : Cond.methodLink RL 192 yL_setCycle ∈ UW := uw 712 (by decide +kernel) rfl
theorem u_713 : Cond.static yL_setCycle ∈ UW := uw 713 (by decide +kernel) rfl
theorem gh_L_192 : GoodIn UW (va_wsS RL 192 yL_setCycle (Cond.codeWith yL_setCycle cL_setCycle 4 (some .int) [(0, 9, 12, 13)] :: UW)) := gSH u_712 u_713 u_64 gh_L_192_c
theorem hds_L_setCycle : yL_setCycle.cls ≠ "java/lang/invoke/MethodHandle" ∧ yL_setCycle.cls ≠ "java/lang/invoke/VarHandle" ∧ (parseMethodDescriptor yL_setCycle.desc).map (fun d => d.parameters.length) = some 3 := by decide +kernel
theorem dL_law_642 : decode cL_law 642 = .ok (.istore 6, 2) := by decide +kernel
theorem dL_law_644 : decode cL_law 644 = .ok (.aload_n 2, 1) := by decide +kernel
theorem dL_law_645 : decode cL_law 645 = .ok (.aload_n 0, 1) := by decide +kernel
theorem dL_law_646 : decode cL_law 646 = .ok (.iload 5, 2) := by decide +kernel
theorem dL_law_648 : decode cL_law 648 = .ok (.iconst 1, 1) := by decide +kernel
theorem dL_law_649 : decode cL_law 649 = .ok (.iadd, 1) := by decide +kernel
theorem dL_law_650 : decode cL_law 650 = .ok (.iaload, 1) := by decide +kernel
theorem dL_law_651 : decode cL_law 651 = .ok (.invokevirtual 195, 3) := by decide +kernel
theorem u_1875 : Cond.methodLink RL 195 yX10_setCycle ∈ UW := uw 1875 (by decide +kernel) rfl
theorem u_1876 : Cond.instanceMethod yX10_setCycle ∈ UW := uw 1876 (by decide +kernel) rfl
theorem u_1877 : Cond.selects RX10 yX10_setCycle yX10_setCycle ∈ UW := uw 1877 (by decide +kernel) rfl
theorem u_1878 : Cond.code yX10_setCycle cX10_setCycle 2 (some .int) ∈ UW := uw 1878 (by decide +kernel) rfl
theorem g_L_195 : GoodIn UW (wsV RL 195 RX10 yX10_setCycle (wsU yX10_setCycle cX10_setCycle 2 (some .int))) := gV u_1875 u_1876 u_1877 u_77 u_1878
theorem hdv_X10_setCycle : yX10_setCycle.cls = RX10 ∧ yX10_setCycle.cls ≠ "java/lang/invoke/MethodHandle" ∧ yX10_setCycle.cls ≠ "java/lang/invoke/VarHandle" ∧ (parseMethodDescriptor yX10_setCycle.desc).map (fun d => d.parameters.length) = some 1 := by decide +kernel
theorem dL_law_654 : decode cL_law 654 = .ok (.istore 7, 2) := by decide +kernel
theorem dL_law_656 : decode cL_law 656 = .ok (.aload_n 2, 1) := by decide +kernel
theorem dL_law_657 : decode cL_law 657 = .ok (.invokevirtual 177, 3) := by decide +kernel
theorem dL_law_660 : decode cL_law 660 = .ok (.iload 6, 2) := by decide +kernel
theorem dL_law_662 : decode cL_law 662 = .ok (.if_icmp .eq 5, 3) := by decide +kernel
theorem dL_law_667 : decode cL_law 667 = .ok (.iload 6, 2) := by decide +kernel
theorem dL_law_669 : decode cL_law 669 = .ok (.ifCond .ne 15, 3) := by decide +kernel
theorem dL_law_684 : decode cL_law 684 = .ok (.goto 2420, 3) := by decide +kernel
theorem dL_law_672 : decode cL_law 672 = .ok (.aload_n 3, 1) := by decide +kernel
theorem dL_law_673 : decode cL_law 673 = .ok (.iconst 0, 1) := by decide +kernel
theorem dL_law_674 : decode cL_law 674 = .ok (.laload, 1) := by decide +kernel
theorem dL_law_675 : decode cL_law 675 = .ok (.iload 7, 2) := by decide +kernel
theorem dL_law_677 : decode cL_law 677 = .ok (.i2l, 1) := by decide +kernel
theorem dL_law_678 : decode cL_law 678 = .ok (.lcmp, 1) := by decide +kernel
theorem dL_law_679 : decode cL_law 679 = .ok (.ifCond .eq 5, 3) := by decide +kernel
def f_K4 (q : McV) (v : StV) (o : StV) (hi : HiV) (hs : Nat → StV) (pg : PrV) (tb : SbV) (nb : SbV) (d : MoV) (ow : Nat → Int64) (od : Nat → UInt64) (xs : Nat → Int32) (j : Nat) : LwT := (let u_3 : Int32 × StV × HiV × (Nat → StV) × (Nat → Int64) := (f_L_setCycle q v hi hs (xs ((nI j) + (1 : Int32)).toNatClampNeg) ow); (let u_6 : Int32 × MoV := (f_X10_setCycle d (xs ((nI j) + (1 : Int32)).toNatClampNeg)); (if (f_X10_thrown u_6.2) = u_3.1 then (if u_3.1 = (0 : Int32) then (if (lg_cmp (u_3.2.2.2.2 (0 : Int32).toNatClampNeg) u_6.1.toInt64) = (0 : Int32) then (q, u_3.2.1, o, u_3.2.2.1, u_3.2.2.2.1, pg, tb, nb, u_6.2, u_3.2.2.2.2, od) else (q, v, o, hi, hs, pg, tb, nb, d, ow, od)) else (q, u_3.2.1, o, u_3.2.2.1, u_3.2.2.2.1, pg, tb, nb, u_6.2, u_3.2.2.2.2, od)) else (q, v, o, hi, hs, pg, tb, nb, d, ow, od))))
def ok_K4 (q : McV) (v : StV) (o : StV) (hi : HiV) (hs : Nat → StV) (pg : PrV) (tb : SbV) (nb : SbV) (d : MoV) (ow : Nat → Int64) (od : Nat → UInt64) (xs : Nat → Int32) (j : Nat) : Prop := (ok_L_setCycle q v hi hs (xs ((nI j) + (1 : Int32)).toNatClampNeg) ow ∧ (let u_3 : Int32 × StV × HiV × (Nat → StV) × (Nat → Int64) := (f_L_setCycle q v hi hs (xs ((nI j) + (1 : Int32)).toNatClampNeg) ow); (ok_X10_setCycle d (xs ((nI j) + (1 : Int32)).toNatClampNeg) ∧ (let u_6 : Int32 × MoV := (f_X10_setCycle d (xs ((nI j) + (1 : Int32)).toNatClampNeg)); (if (f_X10_thrown u_6.2) = u_3.1 then (if u_3.1 = (0 : Int32) then (if (lg_cmp (u_3.2.2.2.2 (0 : Int32).toNatClampNeg) u_6.1.toInt64) = (0 : Int32) then True else False) else True) else False)))))
set_option maxHeartbeats 8000000 in
set_option maxRecDepth 100000 in
set_option linter.constructorNameAsVariable false in
theorem w_K4 {p : Program} {e : Env} {s : State} {m : MethodId} {below : List Frame} {meth : Method} {c : Code} {Q : State → Prop} (l : Launch) (hlf : l.stackTraces = false) (G : GG) (A : Nat → Prop) {b L : Nat} {xs : Nat → Int32} (hC : LCtx p s m c G A b L xs) (qh0 : Nat) (va : Nat → Nat) (oa : Nat → Nat) (hih0 : Nat) (hsh : Nat) (hsa : Nat → Nat → Nat) (pgh0 : Nat) (tbh0 : Nat) (tbh1 : Nat) (nbh0 : Nat) (nbh1 : Nat) (dh0 : Nat) (dh1 : Nat) (dh2 : Nat) (dh3 : Nat) (dh4 : Nat) (dh5 : Nat) (dh6 : Nat) (dh7 : Nat) (owh : Nat) (odh : Nat) {H : Heap} {locs : List Loc} {kc ks : Nat} {ls : Array Slot} (q : McV) (v : StV) (o : StV) (hi : HiV) (hs : Nat → StV) (pg : PrV) (tb : SbV) (nb : SbV) (d : MoV) (ow : Nat → Int64) (od : Nat → UInt64) (j : Nat) (hj : j + 6 ≤ L) (hL : L ≤ 3072) (hkc : kc + 22 ≤ 603072) (hks : ks + 4206 ≤ 7182442) (hok : ok_K4 q v o hi hs pg tb nb d ow od xs j) (hl : lv_has ls 9 [(0, .ref b), (1, .ref qh0), (2, .ref dh0), (3, .ref owh), (4, .ref odh), (5, .int (nI j))]) (hP : va_P G.1 vwCl (fl [[(qh0, .inr (11, [.ref (va 0), .ref (oa 0), .int q.1, .ref hih0, .ref pgh0, .ref nbh0, .int q.2.1, .int q.2.2]))], wSt G va v, wSt G oa o, [(hih0, .inr (7, [.int hi.1, .int hi.2, .ref hsh]))], wHs G hsh hsa hs, [(pgh0, .inr (9, [.int pg.1, .int pg.2.1, .int pg.2.2.1, .int pg.2.2.2, .ref tbh0]))], [(tbh0, .inr (1, [.ref tbh1, .int (0 : Int32), .int tb.2.2.1, .int tb.2.2.2]))], [(tbh1, .inl (G.2.1 2, tb.1, .inl tb.2.1))], [(nbh0, .inr (1, [.ref nbh1, .int (0 : Int32), .int nb.2.2.1, .int nb.2.2.2]))], [(nbh1, .inl (G.2.1 2, nb.1, .inl nb.2.1))], wMo G dh0 dh1 dh2 dh3 dh4 dh5 dh6 dh7 d, [(owh, .inl (G.2.1 3, 1, .inr (.inl ow)))], [(odh, .inl (G.2.1 4, 1, .inr (.inr (.inr (.inl od)))))]]) H) (hD : va_D A (fl [[(qh0, .inr (11, [.ref (va 0), .ref (oa 0), .int q.1, .ref hih0, .ref pgh0, .ref nbh0, .int q.2.1, .int q.2.2]))], wSt G va v, wSt G oa o, [(hih0, .inr (7, [.int hi.1, .int hi.2, .ref hsh]))], wHs G hsh hsa hs, [(pgh0, .inr (9, [.int pg.1, .int pg.2.1, .int pg.2.2.1, .int pg.2.2.2, .ref tbh0]))], [(tbh0, .inr (1, [.ref tbh1, .int (0 : Int32), .int tb.2.2.1, .int tb.2.2.2]))], [(tbh1, .inl (G.2.1 2, tb.1, .inl tb.2.1))], [(nbh0, .inr (1, [.ref nbh1, .int (0 : Int32), .int nb.2.2.1, .int nb.2.2.2]))], [(nbh1, .inl (G.2.1 2, nb.1, .inl nb.2.1))], wMo G dh0 dh1 dh2 dh3 dh4 dh5 dh6 dh7 d, [(owh, .inl (G.2.1 3, 1, .inr (.inl ow)))], [(odh, .inl (G.2.1 4, 1, .inr (.inr (.inr (.inl od)))))]])) (hS : va_S A s.heap H locs)
    (kk : ∀ (tbh1 nbh1 : Nat) (u : LwT) (H : Heap) (locs : List Loc) (ls : Array Slot), u = f_K4 q v o hi hs pg tb nb d ow od xs j → lv_has ls 9 [(0, .ref b), (1, .ref qh0), (2, .ref dh0), (3, .ref owh), (4, .ref odh), (5, .int (nI j))] → va_P G.1 vwCl (fl [[(qh0, .inr (11, [.ref (va 0), .ref (oa 0), .int u.1.1, .ref hih0, .ref pgh0, .ref nbh0, .int u.1.2.1, .int u.1.2.2]))], wSt G va u.2.1, wSt G oa u.2.2.1, [(hih0, .inr (7, [.int u.2.2.2.1.1, .int u.2.2.2.1.2, .ref hsh]))], wHs G hsh hsa u.2.2.2.2.1, [(pgh0, .inr (9, [.int u.2.2.2.2.2.1.1, .int u.2.2.2.2.2.1.2.1, .int u.2.2.2.2.2.1.2.2.1, .int u.2.2.2.2.2.1.2.2.2, .ref tbh0]))], [(tbh0, .inr (1, [.ref tbh1, .int (0 : Int32), .int u.2.2.2.2.2.2.1.2.2.1, .int u.2.2.2.2.2.2.1.2.2.2]))], [(tbh1, .inl (G.2.1 2, u.2.2.2.2.2.2.1.1, .inl u.2.2.2.2.2.2.1.2.1))], [(nbh0, .inr (1, [.ref nbh1, .int (0 : Int32), .int u.2.2.2.2.2.2.2.1.2.2.1, .int u.2.2.2.2.2.2.2.1.2.2.2]))], [(nbh1, .inl (G.2.1 2, u.2.2.2.2.2.2.2.1.1, .inl u.2.2.2.2.2.2.2.1.2.1))], wMo G dh0 dh1 dh2 dh3 dh4 dh5 dh6 dh7 u.2.2.2.2.2.2.2.2.1, [(owh, .inl (G.2.1 3, 1, .inr (.inl u.2.2.2.2.2.2.2.2.2.1)))], [(odh, .inl (G.2.1 4, 1, .inr (.inr (.inr (.inl u.2.2.2.2.2.2.2.2.2.2)))))]]) H → va_D A (fl [[(qh0, .inr (11, [.ref (va 0), .ref (oa 0), .int u.1.1, .ref hih0, .ref pgh0, .ref nbh0, .int u.1.2.1, .int u.1.2.2]))], wSt G va u.2.1, wSt G oa u.2.2.1, [(hih0, .inr (7, [.int u.2.2.2.1.1, .int u.2.2.2.1.2, .ref hsh]))], wHs G hsh hsa u.2.2.2.2.1, [(pgh0, .inr (9, [.int u.2.2.2.2.2.1.1, .int u.2.2.2.2.2.1.2.1, .int u.2.2.2.2.2.1.2.2.1, .int u.2.2.2.2.2.1.2.2.2, .ref tbh0]))], [(tbh0, .inr (1, [.ref tbh1, .int (0 : Int32), .int u.2.2.2.2.2.2.1.2.2.1, .int u.2.2.2.2.2.2.1.2.2.2]))], [(tbh1, .inl (G.2.1 2, u.2.2.2.2.2.2.1.1, .inl u.2.2.2.2.2.2.1.2.1))], [(nbh0, .inr (1, [.ref nbh1, .int (0 : Int32), .int u.2.2.2.2.2.2.2.1.2.2.1, .int u.2.2.2.2.2.2.2.1.2.2.2]))], [(nbh1, .inl (G.2.1 2, u.2.2.2.2.2.2.2.1.1, .inl u.2.2.2.2.2.2.2.1.2.1))], wMo G dh0 dh1 dh2 dh3 dh4 dh5 dh6 dh7 u.2.2.2.2.2.2.2.2.1, [(owh, .inl (G.2.1 3, 1, .inr (.inl u.2.2.2.2.2.2.2.2.2.1)))], [(odh, .inl (G.2.1 4, 1, .inr (.inr (.inr (.inl u.2.2.2.2.2.2.2.2.2.2)))))]]) → va_S A s.heap H locs → W p l e room_1 s m #[Value.ref b] below meth c H locs (kc + 22) (ks + 4206) Q (F0 m 3104 ls [])) :
    W p l e room_1 s m #[Value.ref b] below meth c H locs kc ks Q (F0 m 631 ls []) := by
  obtain ⟨hx, hb, hml, hown, hts, hK, hST, hA, hX, hbl, hbA⟩ := hC
  have hF : f_K4 q v o hi hs pg tb nb d ow od xs j = (let u_3 : Int32 × StV × HiV × (Nat → StV) × (Nat → Int64) := (f_L_setCycle q v hi hs (xs ((nI j) + (1 : Int32)).toNatClampNeg) ow); (let u_6 : Int32 × MoV := (f_X10_setCycle d (xs ((nI j) + (1 : Int32)).toNatClampNeg)); (if (f_X10_thrown u_6.2) = u_3.1 then (if u_3.1 = (0 : Int32) then (if (lg_cmp (u_3.2.2.2.2 (0 : Int32).toNatClampNeg) u_6.1.toInt64) = (0 : Int32) then (q, u_3.2.1, o, u_3.2.2.1, u_3.2.2.2.1, pg, tb, nb, u_6.2, u_3.2.2.2.2, od) else (q, v, o, hi, hs, pg, tb, nb, d, ow, od)) else (q, u_3.2.1, o, u_3.2.2.1, u_3.2.2.2.1, pg, tb, nb, u_6.2, u_3.2.2.2.2, od)) else (q, v, o, hi, hs, pg, tb, nb, d, ow, od)))) := rfl
  have hok : (ok_L_setCycle q v hi hs (xs ((nI j) + (1 : Int32)).toNatClampNeg) ow ∧ (let u_3 : Int32 × StV × HiV × (Nat → StV) × (Nat → Int64) := (f_L_setCycle q v hi hs (xs ((nI j) + (1 : Int32)).toNatClampNeg) ow); (ok_X10_setCycle d (xs ((nI j) + (1 : Int32)).toNatClampNeg) ∧ (let u_6 : Int32 × MoV := (f_X10_setCycle d (xs ((nI j) + (1 : Int32)).toNatClampNeg)); (if (f_X10_thrown u_6.2) = u_3.1 then (if u_3.1 = (0 : Int32) then (if (lg_cmp (u_3.2.2.2.2 (0 : Int32).toNatClampNeg) u_6.1.toInt64) = (0 : Int32) then True else False) else True) else False))))) := hok
  refine lv_aload_n hx hb dL_law_631 rfl (lv_at hl 1 rfl) ?_
  refine lv_aload_n hx hb dL_law_632 rfl (lv_at hl 0 rfl) ?_
  refine lv_iload hx hb dL_law_633 (lv_at hl 5 rfl) ?_
  refine lv_iconst (v := (1 : Int32)) hx hb dL_law_635 (by decide) ?_
  refine lv_iadd hx hb dL_law_636 ?_
  refine va_sld hx hb hX hbl hbA hS (lw_in (k := 1) q_1 hj hL (by decide)) dL_law_637 ?_
  refine lv_aload_n hx hb dL_law_638 rfl (lv_at hl 3 rfl) ?_
  have k_1 := hok.1
  have hok := hok.2
  refine w_SH (own := RL) (cs := [[(qh0, .inr (11, [.ref (va 0), .ref (oa 0), .int q.1, .ref hih0, .ref pgh0, .ref nbh0, .int q.2.1, .int q.2.2]))], wSt G va v, [(hih0, .inr (7, [.int hi.1, .int hi.2, .ref hsh]))], wHs G hsh hsa hs, [(owh, .inl (G.2.1 3, 1, .inr (.inl ow)))]]) (rs := [wSt G oa o, [(pgh0, .inr (9, [.int pg.1, .int pg.2.1, .int pg.2.2.1, .int pg.2.2.2, .ref tbh0]))], [(tbh0, .inr (1, [.ref tbh1, .int (0 : Int32), .int tb.2.2.1, .int tb.2.2.2]))], [(tbh1, .inl (G.2.1 2, tb.1, .inl tb.2.1))], [(nbh0, .inr (1, [.ref nbh1, .int (0 : Int32), .int nb.2.2.1, .int nb.2.2.2]))], [(nbh1, .inl (G.2.1 2, nb.1, .inl nb.2.1))], wMo G dh0 dh1 dh2 dh3 dh4 dh5 dh6 dh7 d, [(odh, .inl (G.2.1 4, 1, .inr (.inr (.inr (.inl od)))))]]) (As := [.ref qh0, .int (xs ((nI j) + (1 : Int32)).toNatClampNeg), .ref owh]) (rest := []) (c_L_setCycle l hlf G qh0 (oa 0) pgh0 nbh0 va hih0 hsh hsa owh H.size q v hi hs (xs ((nI j) + (1 : Int32)).toNatClampNeg) ow k_1) ⟨hx, hb, hml, hown, hts⟩ gh_L_192 hds_L_setCycle hK hST hS hP hD hA [0, 1, 3, 4, 11] [2, 5, 6, 7, 8, 9, 10, 12] rfl rfl rfl ⟨Nat.le_of_ble_eq_true rfl, Nat.le_of_ble_eq_true rfl⟩ ⟨(by show _ ≤ 603072; omega), (by show _ ≤ 7182442; omega)⟩ rfl hl.1 rfl (Nat.le_of_ble_eq_true rfl) dL_law_639 (fun u_3 H locs huu hP hD hS => ?_)
  have eu_3 := huu
  have hP : va_P G.1 vwCl (fl [[(qh0, .inr (11, [.ref (va 0), .ref (oa 0), .int q.1, .ref hih0, .ref pgh0, .ref nbh0, .int q.2.1, .int q.2.2]))], wSt G va u_3.2.1, [(hih0, .inr (7, [.int u_3.2.2.1.1, .int u_3.2.2.1.2, .ref hsh]))], wHs G hsh hsa u_3.2.2.2.1, [(owh, .inl (G.2.1 3, 1, .inr (.inl u_3.2.2.2.2)))], wSt G oa o, [(pgh0, .inr (9, [.int pg.1, .int pg.2.1, .int pg.2.2.1, .int pg.2.2.2, .ref tbh0]))], [(tbh0, .inr (1, [.ref tbh1, .int (0 : Int32), .int tb.2.2.1, .int tb.2.2.2]))], [(tbh1, .inl (G.2.1 2, tb.1, .inl tb.2.1))], [(nbh0, .inr (1, [.ref nbh1, .int (0 : Int32), .int nb.2.2.1, .int nb.2.2.2]))], [(nbh1, .inl (G.2.1 2, nb.1, .inl nb.2.1))], wMo G dh0 dh1 dh2 dh3 dh4 dh5 dh6 dh7 d, [(odh, .inl (G.2.1 4, 1, .inr (.inr (.inr (.inl od)))))]]) H := hP
  have hD : va_D A (fl [[(qh0, .inr (11, [.ref (va 0), .ref (oa 0), .int q.1, .ref hih0, .ref pgh0, .ref nbh0, .int q.2.1, .int q.2.2]))], wSt G va u_3.2.1, [(hih0, .inr (7, [.int u_3.2.2.1.1, .int u_3.2.2.1.2, .ref hsh]))], wHs G hsh hsa u_3.2.2.2.1, [(owh, .inl (G.2.1 3, 1, .inr (.inl u_3.2.2.2.2)))], wSt G oa o, [(pgh0, .inr (9, [.int pg.1, .int pg.2.1, .int pg.2.2.1, .int pg.2.2.2, .ref tbh0]))], [(tbh0, .inr (1, [.ref tbh1, .int (0 : Int32), .int tb.2.2.1, .int tb.2.2.2]))], [(tbh1, .inl (G.2.1 2, tb.1, .inl tb.2.1))], [(nbh0, .inr (1, [.ref nbh1, .int (0 : Int32), .int nb.2.2.1, .int nb.2.2.2]))], [(nbh1, .inl (G.2.1 2, nb.1, .inl nb.2.1))], wMo G dh0 dh1 dh2 dh3 dh4 dh5 dh6 dh7 d, [(odh, .inl (G.2.1 4, 1, .inr (.inr (.inr (.inl od)))))]]) := hD
  refine W.eq (g2 := F0 m 642 ls [.int u_3.1]) rfl ?_
  have hF : f_K4 q v o hi hs pg tb nb d ow od xs j = (let u_6 : Int32 × MoV := (f_X10_setCycle d (xs ((nI j) + (1 : Int32)).toNatClampNeg)); (if (f_X10_thrown u_6.2) = u_3.1 then (if u_3.1 = (0 : Int32) then (if (lg_cmp (u_3.2.2.2.2 (0 : Int32).toNatClampNeg) u_6.1.toInt64) = (0 : Int32) then (q, u_3.2.1, o, u_3.2.2.1, u_3.2.2.2.1, pg, tb, nb, u_6.2, u_3.2.2.2.2, od) else (q, v, o, hi, hs, pg, tb, nb, d, ow, od)) else (q, u_3.2.1, o, u_3.2.2.1, u_3.2.2.2.1, pg, tb, nb, u_6.2, u_3.2.2.2.2, od)) else (q, v, o, hi, hs, pg, tb, nb, d, ow, od))) := by subst eu_3; exact hF
  have hok : (ok_X10_setCycle d (xs ((nI j) + (1 : Int32)).toNatClampNeg) ∧ (let u_6 : Int32 × MoV := (f_X10_setCycle d (xs ((nI j) + (1 : Int32)).toNatClampNeg)); (if (f_X10_thrown u_6.2) = u_3.1 then (if u_3.1 = (0 : Int32) then (if (lg_cmp (u_3.2.2.2.2 (0 : Int32).toNatClampNeg) u_6.1.toInt64) = (0 : Int32) then True else False) else True) else False))) := by subst eu_3; exact hok
  refine lv_istore (lv' := [(6, .int u_3.1), (0, .ref b), (1, .ref qh0), (2, .ref dh0), (3, .ref owh), (4, .ref odh), (5, .int (nI j))]) hx hb dL_law_642 hl (by decide) rfl (fun ls hl => ?_)
  refine lv_aload_n hx hb dL_law_644 rfl (lv_at hl 3 rfl) ?_
  refine lv_aload_n hx hb dL_law_645 rfl (lv_at hl 1 rfl) ?_
  refine lv_iload hx hb dL_law_646 (lv_at hl 6 rfl) ?_
  refine lv_iconst (v := (1 : Int32)) hx hb dL_law_648 (by decide) ?_
  refine lv_iadd hx hb dL_law_649 ?_
  refine va_sld hx hb hX hbl hbA hS (lw_in (k := 1) q_1 hj hL (by decide)) dL_law_650 ?_
  have k_4 := hok.1
  have hok := hok.2
  refine w_V (own := RL) (cs := [wMo G dh0 dh1 dh2 dh3 dh4 dh5 dh6 dh7 d]) (rs := [[(qh0, .inr (11, [.ref (va 0), .ref (oa 0), .int q.1, .ref hih0, .ref pgh0, .ref nbh0, .int q.2.1, .int q.2.2]))], wSt G va u_3.2.1, [(hih0, .inr (7, [.int u_3.2.2.1.1, .int u_3.2.2.1.2, .ref hsh]))], wHs G hsh hsa u_3.2.2.2.1, [(owh, .inl (G.2.1 3, 1, .inr (.inl u_3.2.2.2.2)))], wSt G oa o, [(pgh0, .inr (9, [.int pg.1, .int pg.2.1, .int pg.2.2.1, .int pg.2.2.2, .ref tbh0]))], [(tbh0, .inr (1, [.ref tbh1, .int (0 : Int32), .int tb.2.2.1, .int tb.2.2.2]))], [(tbh1, .inl (G.2.1 2, tb.1, .inl tb.2.1))], [(nbh0, .inr (1, [.ref nbh1, .int (0 : Int32), .int nb.2.2.1, .int nb.2.2.2]))], [(nbh1, .inl (G.2.1 2, nb.1, .inl nb.2.1))], [(odh, .inl (G.2.1 4, 1, .inr (.inr (.inr (.inl od)))))]]) (As := [.int (xs ((nI j) + (1 : Int32)).toNatClampNeg)]) (rest := []) (c_X10_setCycle l G dh0 dh1 dh2 dh3 dh4 dh5 dh6 dh7 H.size d (xs ((nI j) + (1 : Int32)).toNatClampNeg) k_4) ⟨hx, hb, hml, hown, hts⟩ g_L_195 hdv_X10_setCycle hK hST hS hP hD hA [11] [0, 1, 2, 3, 4, 5, 6, 7, 8, 9, 10, 12] rfl rfl rfl (k0 := 0) rfl rfl rfl ⟨Nat.le_of_ble_eq_true rfl, Nat.le_of_ble_eq_true rfl⟩ ⟨(by show _ ≤ 603072; omega), (by show _ ≤ 7182442; omega)⟩ rfl hl.1 rfl (Nat.le_of_ble_eq_true rfl) dL_law_651 (fun u_6 H locs huu hP hD hS => ?_)
  have eu_6 := huu
  have hP : va_P G.1 vwCl (fl [wMo G dh0 dh1 dh2 dh3 dh4 dh5 dh6 dh7 u_6.2, [(qh0, .inr (11, [.ref (va 0), .ref (oa 0), .int q.1, .ref hih0, .ref pgh0, .ref nbh0, .int q.2.1, .int q.2.2]))], wSt G va u_3.2.1, [(hih0, .inr (7, [.int u_3.2.2.1.1, .int u_3.2.2.1.2, .ref hsh]))], wHs G hsh hsa u_3.2.2.2.1, [(owh, .inl (G.2.1 3, 1, .inr (.inl u_3.2.2.2.2)))], wSt G oa o, [(pgh0, .inr (9, [.int pg.1, .int pg.2.1, .int pg.2.2.1, .int pg.2.2.2, .ref tbh0]))], [(tbh0, .inr (1, [.ref tbh1, .int (0 : Int32), .int tb.2.2.1, .int tb.2.2.2]))], [(tbh1, .inl (G.2.1 2, tb.1, .inl tb.2.1))], [(nbh0, .inr (1, [.ref nbh1, .int (0 : Int32), .int nb.2.2.1, .int nb.2.2.2]))], [(nbh1, .inl (G.2.1 2, nb.1, .inl nb.2.1))], [(odh, .inl (G.2.1 4, 1, .inr (.inr (.inr (.inl od)))))]]) H := hP
  have hD : va_D A (fl [wMo G dh0 dh1 dh2 dh3 dh4 dh5 dh6 dh7 u_6.2, [(qh0, .inr (11, [.ref (va 0), .ref (oa 0), .int q.1, .ref hih0, .ref pgh0, .ref nbh0, .int q.2.1, .int q.2.2]))], wSt G va u_3.2.1, [(hih0, .inr (7, [.int u_3.2.2.1.1, .int u_3.2.2.1.2, .ref hsh]))], wHs G hsh hsa u_3.2.2.2.1, [(owh, .inl (G.2.1 3, 1, .inr (.inl u_3.2.2.2.2)))], wSt G oa o, [(pgh0, .inr (9, [.int pg.1, .int pg.2.1, .int pg.2.2.1, .int pg.2.2.2, .ref tbh0]))], [(tbh0, .inr (1, [.ref tbh1, .int (0 : Int32), .int tb.2.2.1, .int tb.2.2.2]))], [(tbh1, .inl (G.2.1 2, tb.1, .inl tb.2.1))], [(nbh0, .inr (1, [.ref nbh1, .int (0 : Int32), .int nb.2.2.1, .int nb.2.2.2]))], [(nbh1, .inl (G.2.1 2, nb.1, .inl nb.2.1))], [(odh, .inl (G.2.1 4, 1, .inr (.inr (.inr (.inl od)))))]]) := hD
  refine W.eq (g2 := F0 m 654 ls [.int u_6.1]) rfl ?_
  have hF : f_K4 q v o hi hs pg tb nb d ow od xs j = (if (f_X10_thrown u_6.2) = u_3.1 then (if u_3.1 = (0 : Int32) then (if (lg_cmp (u_3.2.2.2.2 (0 : Int32).toNatClampNeg) u_6.1.toInt64) = (0 : Int32) then (q, u_3.2.1, o, u_3.2.2.1, u_3.2.2.2.1, pg, tb, nb, u_6.2, u_3.2.2.2.2, od) else (q, v, o, hi, hs, pg, tb, nb, d, ow, od)) else (q, u_3.2.1, o, u_3.2.2.1, u_3.2.2.2.1, pg, tb, nb, u_6.2, u_3.2.2.2.2, od)) else (q, v, o, hi, hs, pg, tb, nb, d, ow, od)) := by subst eu_6; exact hF
  have hok : (if (f_X10_thrown u_6.2) = u_3.1 then (if u_3.1 = (0 : Int32) then (if (lg_cmp (u_3.2.2.2.2 (0 : Int32).toNatClampNeg) u_6.1.toInt64) = (0 : Int32) then True else False) else True) else False) := by subst eu_6; exact hok
  refine lv_istore (lv' := [(7, .int u_6.1), (6, .int u_3.1), (0, .ref b), (1, .ref qh0), (2, .ref dh0), (3, .ref owh), (4, .ref odh), (5, .int (nI j))]) hx hb dL_law_654 hl (by decide) rfl (fun ls hl => ?_)
  refine lv_aload_n hx hb dL_law_656 rfl (lv_at hl 4 rfl) ?_
  refine r_V (own := RL) (v := (some (.int (f_X10_thrown u_6.2)))) (st1 := [.int (f_X10_thrown u_6.2)]) (As := []) (rest := []) (c_X10_thrown l G dh0 dh1 dh2 dh3 dh4 dh5 dh6 dh7 u_6.2) ⟨hx, hb, hml, hown, hts⟩ g_L_177 hdv_X10_thrown hK hST hS hP [0, 1, 2, 3, 4, 5, 6, 7] rfl (k0 := 0) rfl rfl rfl ⟨Nat.le_of_ble_eq_true rfl, Nat.le_of_ble_eq_true rfl⟩ ⟨(by show _ ≤ 603072; omega), (by show _ ≤ 7182442; omega)⟩ rfl hl.1 rfl (Nat.le_of_ble_eq_true rfl) dL_law_657 rfl (fun b_7 => ?_)
  refine lv_iload hx hb dL_law_660 (lv_at hl 1 rfl) ?_
  refine lv_icmp_eq (tgt := 667) hx hb dL_law_662 (by decide) (fun c_8 => ?_) (fun c_8 => ?_)
  · have hF := hF.trans (if_pos c_8)
    have hok := Eq.mp (if_pos c_8) hok
    refine lv_iload hx hb dL_law_667 (lv_at hl 1 rfl) ?_
    refine lv_if_ne (tgt := 684) hx hb dL_law_669 (by decide) (fun c_9 => ?_) (fun c_9 => ?_)
    · have hF := hF.trans (if_neg c_9)
      have hok := Eq.mp (if_neg c_9) hok
      refine lv_goto (tgt := 3104) hx hb dL_law_684 (by decide) ?_
      have hP := fl_sub (cs := [[(qh0, .inr (11, [.ref (va 0), .ref (oa 0), .int q.1, .ref hih0, .ref pgh0, .ref nbh0, .int q.2.1, .int q.2.2]))], wSt G va u_3.2.1, wSt G oa o, [(hih0, .inr (7, [.int u_3.2.2.1.1, .int u_3.2.2.1.2, .ref hsh]))], wHs G hsh hsa u_3.2.2.2.1, [(pgh0, .inr (9, [.int pg.1, .int pg.2.1, .int pg.2.2.1, .int pg.2.2.2, .ref tbh0]))], [(tbh0, .inr (1, [.ref tbh1, .int (0 : Int32), .int tb.2.2.1, .int tb.2.2.2]))], [(tbh1, .inl (G.2.1 2, tb.1, .inl tb.2.1))], [(nbh0, .inr (1, [.ref nbh1, .int (0 : Int32), .int nb.2.2.1, .int nb.2.2.2]))], [(nbh1, .inl (G.2.1 2, nb.1, .inl nb.2.1))], wMo G dh0 dh1 dh2 dh3 dh4 dh5 dh6 dh7 u_6.2, [(owh, .inl (G.2.1 3, 1, .inr (.inl u_3.2.2.2.2)))], [(odh, .inl (G.2.1 4, 1, .inr (.inr (.inr (.inl od)))))]]) [1, 2, 6, 3, 4, 7, 8, 9, 10, 11, 0, 5, 12] rfl hP
      have hD := fl_subD (cs := [[(qh0, .inr (11, [.ref (va 0), .ref (oa 0), .int q.1, .ref hih0, .ref pgh0, .ref nbh0, .int q.2.1, .int q.2.2]))], wSt G va u_3.2.1, wSt G oa o, [(hih0, .inr (7, [.int u_3.2.2.1.1, .int u_3.2.2.1.2, .ref hsh]))], wHs G hsh hsa u_3.2.2.2.1, [(pgh0, .inr (9, [.int pg.1, .int pg.2.1, .int pg.2.2.1, .int pg.2.2.2, .ref tbh0]))], [(tbh0, .inr (1, [.ref tbh1, .int (0 : Int32), .int tb.2.2.1, .int tb.2.2.2]))], [(tbh1, .inl (G.2.1 2, tb.1, .inl tb.2.1))], [(nbh0, .inr (1, [.ref nbh1, .int (0 : Int32), .int nb.2.2.1, .int nb.2.2.2]))], [(nbh1, .inl (G.2.1 2, nb.1, .inl nb.2.1))], wMo G dh0 dh1 dh2 dh3 dh4 dh5 dh6 dh7 u_6.2, [(owh, .inl (G.2.1 3, 1, .inr (.inl u_3.2.2.2.2)))], [(odh, .inl (G.2.1 4, 1, .inr (.inr (.inr (.inl od)))))]]) [1, 2, 6, 3, 4, 7, 8, 9, 10, 11, 0, 5, 12] rfl rfl hD
      refine W.widen (k := kc + 22) (n := ks + 4206) (by omega) (by omega) ?_
      exact kk tbh1 nbh1 (q, u_3.2.1, o, u_3.2.2.1, u_3.2.2.2.1, pg, tb, nb, u_6.2, u_3.2.2.2.2, od) _ _ ls hF.symm (lv_sub hl [2, 3, 4, 5, 6, 7] rfl) hP hD hS
    · have hF := hF.trans (if_pos c_9)
      have hok := Eq.mp (if_pos c_9) hok
      refine lv_aload_n hx hb dL_law_672 rfl (lv_at hl 5 rfl) ?_
      refine lv_iconst (v := (0 : Int32)) hx hb dL_law_673 (by decide) ?_
      refine va_lald hx hb hK hP 211 3 rfl rfl (vp_in_nI (n := 0) (by decide) (by decide)) dL_law_674 ?_
      refine lv_iload hx hb dL_law_675 (lv_at hl 0 rfl) ?_
      refine lv_i2l hx hb dL_law_677 rfl ?_
      refine W.lcmp hx hb dL_law_678 ?_
      refine lv_if_eq (tgt := 684) hx hb dL_law_679 (by decide) (fun c_10 => ?_) (fun c_10 => ?_)
      · have hF := hF.trans (if_pos c_10)
        have hok := Eq.mp (if_pos c_10) hok
        refine lv_goto (tgt := 3104) hx hb dL_law_684 (by decide) ?_
        have hP := fl_sub (cs := [[(qh0, .inr (11, [.ref (va 0), .ref (oa 0), .int q.1, .ref hih0, .ref pgh0, .ref nbh0, .int q.2.1, .int q.2.2]))], wSt G va u_3.2.1, wSt G oa o, [(hih0, .inr (7, [.int u_3.2.2.1.1, .int u_3.2.2.1.2, .ref hsh]))], wHs G hsh hsa u_3.2.2.2.1, [(pgh0, .inr (9, [.int pg.1, .int pg.2.1, .int pg.2.2.1, .int pg.2.2.2, .ref tbh0]))], [(tbh0, .inr (1, [.ref tbh1, .int (0 : Int32), .int tb.2.2.1, .int tb.2.2.2]))], [(tbh1, .inl (G.2.1 2, tb.1, .inl tb.2.1))], [(nbh0, .inr (1, [.ref nbh1, .int (0 : Int32), .int nb.2.2.1, .int nb.2.2.2]))], [(nbh1, .inl (G.2.1 2, nb.1, .inl nb.2.1))], wMo G dh0 dh1 dh2 dh3 dh4 dh5 dh6 dh7 u_6.2, [(owh, .inl (G.2.1 3, 1, .inr (.inl u_3.2.2.2.2)))], [(odh, .inl (G.2.1 4, 1, .inr (.inr (.inr (.inl od)))))]]) [1, 2, 6, 3, 4, 7, 8, 9, 10, 11, 0, 5, 12] rfl hP
        have hD := fl_subD (cs := [[(qh0, .inr (11, [.ref (va 0), .ref (oa 0), .int q.1, .ref hih0, .ref pgh0, .ref nbh0, .int q.2.1, .int q.2.2]))], wSt G va u_3.2.1, wSt G oa o, [(hih0, .inr (7, [.int u_3.2.2.1.1, .int u_3.2.2.1.2, .ref hsh]))], wHs G hsh hsa u_3.2.2.2.1, [(pgh0, .inr (9, [.int pg.1, .int pg.2.1, .int pg.2.2.1, .int pg.2.2.2, .ref tbh0]))], [(tbh0, .inr (1, [.ref tbh1, .int (0 : Int32), .int tb.2.2.1, .int tb.2.2.2]))], [(tbh1, .inl (G.2.1 2, tb.1, .inl tb.2.1))], [(nbh0, .inr (1, [.ref nbh1, .int (0 : Int32), .int nb.2.2.1, .int nb.2.2.2]))], [(nbh1, .inl (G.2.1 2, nb.1, .inl nb.2.1))], wMo G dh0 dh1 dh2 dh3 dh4 dh5 dh6 dh7 u_6.2, [(owh, .inl (G.2.1 3, 1, .inr (.inl u_3.2.2.2.2)))], [(odh, .inl (G.2.1 4, 1, .inr (.inr (.inr (.inl od)))))]]) [1, 2, 6, 3, 4, 7, 8, 9, 10, 11, 0, 5, 12] rfl rfl hD
        refine W.widen (k := kc + 22) (n := ks + 4206) (by omega) (by omega) ?_
        exact kk tbh1 nbh1 (q, u_3.2.1, o, u_3.2.2.1, u_3.2.2.2.1, pg, tb, nb, u_6.2, u_3.2.2.2.2, od) _ _ ls hF.symm (lv_sub hl [2, 3, 4, 5, 6, 7] rfl) hP hD hS
      · have hF := hF.trans (if_neg c_10)
        have hok := Eq.mp (if_neg c_10) hok
        exact hok.elim
  · have hF := hF.trans (if_neg c_8)
    have hok := Eq.mp (if_neg c_8) hok
    exact hok.elim
theorem dL_law_687 : decode cL_law 687 = .ok (.aload_n 1, 1) := by decide +kernel
theorem dL_law_688 : decode cL_law 688 = .ok (.invokevirtual 196, 3) := by decide +kernel
theorem u_336 : Cond.methodLink RL 196 yX9_doorCount ∈ UW := uw 336 (by decide +kernel) rfl
theorem u_337 : Cond.instanceMethod yX9_doorCount ∈ UW := uw 337 (by decide +kernel) rfl
theorem u_338 : Cond.selects RX9 yX9_doorCount yX9_doorCount ∈ UW := uw 338 (by decide +kernel) rfl
theorem u_339 : Cond.code yX9_doorCount cX9_doorCount 1 (some .int) ∈ UW := uw 339 (by decide +kernel) rfl
theorem g_L_196 : GoodIn UW (wsV RL 196 RX9 yX9_doorCount (wsU yX9_doorCount cX9_doorCount 1 (some .int))) := gV u_336 u_337 u_338 u_65 u_339
theorem hdv_X9_doorCount : yX9_doorCount.cls = RX9 ∧ yX9_doorCount.cls ≠ "java/lang/invoke/MethodHandle" ∧ yX9_doorCount.cls ≠ "java/lang/invoke/VarHandle" ∧ (parseMethodDescriptor yX9_doorCount.desc).map (fun d => d.parameters.length) = some 0 := by decide +kernel
theorem dL_law_691 : decode cL_law 691 = .ok (.aload_n 2, 1) := by decide +kernel
theorem dL_law_692 : decode cL_law 692 = .ok (.invokevirtual 199, 3) := by decide +kernel
theorem u_1895 : Cond.methodLink RL 199 yX10_doorCount ∈ UW := uw 1895 (by decide +kernel) rfl
theorem u_1896 : Cond.instanceMethod yX10_doorCount ∈ UW := uw 1896 (by decide +kernel) rfl
theorem u_1897 : Cond.selects RX10 yX10_doorCount yX10_doorCount ∈ UW := uw 1897 (by decide +kernel) rfl
theorem u_1898 : Cond.code yX10_doorCount cX10_doorCount 1 (some .int) ∈ UW := uw 1898 (by decide +kernel) rfl
theorem g_L_199 : GoodIn UW (wsV RL 199 RX10 yX10_doorCount (wsU yX10_doorCount cX10_doorCount 1 (some .int))) := gV u_1895 u_1896 u_1897 u_77 u_1898
theorem hdv_X10_doorCount : yX10_doorCount.cls = RX10 ∧ yX10_doorCount.cls ≠ "java/lang/invoke/MethodHandle" ∧ yX10_doorCount.cls ≠ "java/lang/invoke/VarHandle" ∧ (parseMethodDescriptor yX10_doorCount.desc).map (fun d => d.parameters.length) = some 0 := by decide +kernel
theorem dL_law_695 : decode cL_law 695 = .ok (.if_icmp .eq 2409, 3) := by decide +kernel
def f_K5 (q : McV) (v : StV) (o : StV) (hi : HiV) (hs : Nat → StV) (pg : PrV) (tb : SbV) (nb : SbV) (d : MoV) (ow : Nat → Int64) (od : Nat → UInt64) (xs : Nat → Int32) (j : Nat) : LwT := (let u_3 : Int32 × MoV := (f_X10_doorCount d); (if (f_X9_doorCount q v) = u_3.1 then (q, v, o, hi, hs, pg, tb, nb, u_3.2, ow, od) else (q, v, o, hi, hs, pg, tb, nb, d, ow, od)))
def ok_K5 (q : McV) (v : StV) (o : StV) (hi : HiV) (hs : Nat → StV) (pg : PrV) (tb : SbV) (nb : SbV) (d : MoV) (ow : Nat → Int64) (od : Nat → UInt64) (xs : Nat → Int32) (j : Nat) : Prop := (let u_3 : Int32 × MoV := (f_X10_doorCount d); (if (f_X9_doorCount q v) = u_3.1 then True else False))
set_option maxHeartbeats 8000000 in
set_option maxRecDepth 100000 in
set_option linter.constructorNameAsVariable false in
theorem w_K5 {p : Program} {e : Env} {s : State} {m : MethodId} {below : List Frame} {meth : Method} {c : Code} {Q : State → Prop} (l : Launch) (hlf : l.stackTraces = false) (G : GG) (A : Nat → Prop) {b L : Nat} {xs : Nat → Int32} (hC : LCtx p s m c G A b L xs) (qh0 : Nat) (va : Nat → Nat) (oa : Nat → Nat) (hih0 : Nat) (hsh : Nat) (hsa : Nat → Nat → Nat) (pgh0 : Nat) (tbh0 : Nat) (tbh1 : Nat) (nbh0 : Nat) (nbh1 : Nat) (dh0 : Nat) (dh1 : Nat) (dh2 : Nat) (dh3 : Nat) (dh4 : Nat) (dh5 : Nat) (dh6 : Nat) (dh7 : Nat) (owh : Nat) (odh : Nat) {H : Heap} {locs : List Loc} {kc ks : Nat} {ls : Array Slot} (q : McV) (v : StV) (o : StV) (hi : HiV) (hs : Nat → StV) (pg : PrV) (tb : SbV) (nb : SbV) (d : MoV) (ow : Nat → Int64) (od : Nat → UInt64) (j : Nat) (hj : j + 6 ≤ L) (hL : L ≤ 3072) (hkc : kc + 22 ≤ 603072) (hks : ks + 4206 ≤ 7182442) (hok : ok_K5 q v o hi hs pg tb nb d ow od xs j) (hl : lv_has ls 9 [(0, .ref b), (1, .ref qh0), (2, .ref dh0), (3, .ref owh), (4, .ref odh), (5, .int (nI j))]) (hP : va_P G.1 vwCl (fl [[(qh0, .inr (11, [.ref (va 0), .ref (oa 0), .int q.1, .ref hih0, .ref pgh0, .ref nbh0, .int q.2.1, .int q.2.2]))], wSt G va v, wSt G oa o, [(hih0, .inr (7, [.int hi.1, .int hi.2, .ref hsh]))], wHs G hsh hsa hs, [(pgh0, .inr (9, [.int pg.1, .int pg.2.1, .int pg.2.2.1, .int pg.2.2.2, .ref tbh0]))], [(tbh0, .inr (1, [.ref tbh1, .int (0 : Int32), .int tb.2.2.1, .int tb.2.2.2]))], [(tbh1, .inl (G.2.1 2, tb.1, .inl tb.2.1))], [(nbh0, .inr (1, [.ref nbh1, .int (0 : Int32), .int nb.2.2.1, .int nb.2.2.2]))], [(nbh1, .inl (G.2.1 2, nb.1, .inl nb.2.1))], wMo G dh0 dh1 dh2 dh3 dh4 dh5 dh6 dh7 d, [(owh, .inl (G.2.1 3, 1, .inr (.inl ow)))], [(odh, .inl (G.2.1 4, 1, .inr (.inr (.inr (.inl od)))))]]) H) (hD : va_D A (fl [[(qh0, .inr (11, [.ref (va 0), .ref (oa 0), .int q.1, .ref hih0, .ref pgh0, .ref nbh0, .int q.2.1, .int q.2.2]))], wSt G va v, wSt G oa o, [(hih0, .inr (7, [.int hi.1, .int hi.2, .ref hsh]))], wHs G hsh hsa hs, [(pgh0, .inr (9, [.int pg.1, .int pg.2.1, .int pg.2.2.1, .int pg.2.2.2, .ref tbh0]))], [(tbh0, .inr (1, [.ref tbh1, .int (0 : Int32), .int tb.2.2.1, .int tb.2.2.2]))], [(tbh1, .inl (G.2.1 2, tb.1, .inl tb.2.1))], [(nbh0, .inr (1, [.ref nbh1, .int (0 : Int32), .int nb.2.2.1, .int nb.2.2.2]))], [(nbh1, .inl (G.2.1 2, nb.1, .inl nb.2.1))], wMo G dh0 dh1 dh2 dh3 dh4 dh5 dh6 dh7 d, [(owh, .inl (G.2.1 3, 1, .inr (.inl ow)))], [(odh, .inl (G.2.1 4, 1, .inr (.inr (.inr (.inl od)))))]])) (hS : va_S A s.heap H locs)
    (kk : ∀ (tbh1 nbh1 : Nat) (u : LwT) (H : Heap) (locs : List Loc) (ls : Array Slot), u = f_K5 q v o hi hs pg tb nb d ow od xs j → lv_has ls 9 [(0, .ref b), (1, .ref qh0), (2, .ref dh0), (3, .ref owh), (4, .ref odh), (5, .int (nI j))] → va_P G.1 vwCl (fl [[(qh0, .inr (11, [.ref (va 0), .ref (oa 0), .int u.1.1, .ref hih0, .ref pgh0, .ref nbh0, .int u.1.2.1, .int u.1.2.2]))], wSt G va u.2.1, wSt G oa u.2.2.1, [(hih0, .inr (7, [.int u.2.2.2.1.1, .int u.2.2.2.1.2, .ref hsh]))], wHs G hsh hsa u.2.2.2.2.1, [(pgh0, .inr (9, [.int u.2.2.2.2.2.1.1, .int u.2.2.2.2.2.1.2.1, .int u.2.2.2.2.2.1.2.2.1, .int u.2.2.2.2.2.1.2.2.2, .ref tbh0]))], [(tbh0, .inr (1, [.ref tbh1, .int (0 : Int32), .int u.2.2.2.2.2.2.1.2.2.1, .int u.2.2.2.2.2.2.1.2.2.2]))], [(tbh1, .inl (G.2.1 2, u.2.2.2.2.2.2.1.1, .inl u.2.2.2.2.2.2.1.2.1))], [(nbh0, .inr (1, [.ref nbh1, .int (0 : Int32), .int u.2.2.2.2.2.2.2.1.2.2.1, .int u.2.2.2.2.2.2.2.1.2.2.2]))], [(nbh1, .inl (G.2.1 2, u.2.2.2.2.2.2.2.1.1, .inl u.2.2.2.2.2.2.2.1.2.1))], wMo G dh0 dh1 dh2 dh3 dh4 dh5 dh6 dh7 u.2.2.2.2.2.2.2.2.1, [(owh, .inl (G.2.1 3, 1, .inr (.inl u.2.2.2.2.2.2.2.2.2.1)))], [(odh, .inl (G.2.1 4, 1, .inr (.inr (.inr (.inl u.2.2.2.2.2.2.2.2.2.2)))))]]) H → va_D A (fl [[(qh0, .inr (11, [.ref (va 0), .ref (oa 0), .int u.1.1, .ref hih0, .ref pgh0, .ref nbh0, .int u.1.2.1, .int u.1.2.2]))], wSt G va u.2.1, wSt G oa u.2.2.1, [(hih0, .inr (7, [.int u.2.2.2.1.1, .int u.2.2.2.1.2, .ref hsh]))], wHs G hsh hsa u.2.2.2.2.1, [(pgh0, .inr (9, [.int u.2.2.2.2.2.1.1, .int u.2.2.2.2.2.1.2.1, .int u.2.2.2.2.2.1.2.2.1, .int u.2.2.2.2.2.1.2.2.2, .ref tbh0]))], [(tbh0, .inr (1, [.ref tbh1, .int (0 : Int32), .int u.2.2.2.2.2.2.1.2.2.1, .int u.2.2.2.2.2.2.1.2.2.2]))], [(tbh1, .inl (G.2.1 2, u.2.2.2.2.2.2.1.1, .inl u.2.2.2.2.2.2.1.2.1))], [(nbh0, .inr (1, [.ref nbh1, .int (0 : Int32), .int u.2.2.2.2.2.2.2.1.2.2.1, .int u.2.2.2.2.2.2.2.1.2.2.2]))], [(nbh1, .inl (G.2.1 2, u.2.2.2.2.2.2.2.1.1, .inl u.2.2.2.2.2.2.2.1.2.1))], wMo G dh0 dh1 dh2 dh3 dh4 dh5 dh6 dh7 u.2.2.2.2.2.2.2.2.1, [(owh, .inl (G.2.1 3, 1, .inr (.inl u.2.2.2.2.2.2.2.2.2.1)))], [(odh, .inl (G.2.1 4, 1, .inr (.inr (.inr (.inl u.2.2.2.2.2.2.2.2.2.2)))))]]) → va_S A s.heap H locs → W p l e room_1 s m #[Value.ref b] below meth c H locs (kc + 22) (ks + 4206) Q (F0 m 3104 ls [])) :
    W p l e room_1 s m #[Value.ref b] below meth c H locs kc ks Q (F0 m 687 ls []) := by
  obtain ⟨hx, hb, hml, hown, hts, hK, hST, hA, hX, hbl, hbA⟩ := hC
  have hF : f_K5 q v o hi hs pg tb nb d ow od xs j = (let u_3 : Int32 × MoV := (f_X10_doorCount d); (if (f_X9_doorCount q v) = u_3.1 then (q, v, o, hi, hs, pg, tb, nb, u_3.2, ow, od) else (q, v, o, hi, hs, pg, tb, nb, d, ow, od))) := rfl
  have hok : (let u_3 : Int32 × MoV := (f_X10_doorCount d); (if (f_X9_doorCount q v) = u_3.1 then True else False)) := hok
  refine lv_aload_n hx hb dL_law_687 rfl (lv_at hl 1 rfl) ?_
  refine r_V (own := RL) (v := (some (.int (f_X9_doorCount q v)))) (st1 := [.int (f_X9_doorCount q v)]) (As := []) (rest := []) (c_X9_doorCountS l G qh0 (oa 0) hih0 pgh0 nbh0 va q v) ⟨hx, hb, hml, hown, hts⟩ g_L_196 hdv_X9_doorCount hK hST hS hP [0, 1, 2, 3, 4, 5, 6, 7, 8, 9, 10, 11, 12, 13, 14, 15, 16, 17, 18, 19, 20] rfl (k0 := 0) rfl rfl rfl ⟨Nat.le_of_ble_eq_true rfl, Nat.le_of_ble_eq_true rfl⟩ ⟨(by show _ ≤ 603072; omega), (by show _ ≤ 7182442; omega)⟩ rfl hl.1 rfl (Nat.le_of_ble_eq_true rfl) dL_law_688 rfl (fun b_1 => ?_)
  refine lv_aload_n hx hb dL_law_691 rfl (lv_at hl 2 rfl) ?_
  refine w_V (own := RL) (cs := [wMo G dh0 dh1 dh2 dh3 dh4 dh5 dh6 dh7 d]) (rs := [[(qh0, .inr (11, [.ref (va 0), .ref (oa 0), .int q.1, .ref hih0, .ref pgh0, .ref nbh0, .int q.2.1, .int q.2.2]))], wSt G va v, wSt G oa o, [(hih0, .inr (7, [.int hi.1, .int hi.2, .ref hsh]))], wHs G hsh hsa hs, [(pgh0, .inr (9, [.int pg.1, .int pg.2.1, .int pg.2.2.1, .int pg.2.2.2, .ref tbh0]))], [(tbh0, .inr (1, [.ref tbh1, .int (0 : Int32), .int tb.2.2.1, .int tb.2.2.2]))], [(tbh1, .inl (G.2.1 2, tb.1, .inl tb.2.1))], [(nbh0, .inr (1, [.ref nbh1, .int (0 : Int32), .int nb.2.2.1, .int nb.2.2.2]))], [(nbh1, .inl (G.2.1 2, nb.1, .inl nb.2.1))], [(owh, .inl (G.2.1 3, 1, .inr (.inl ow)))], [(odh, .inl (G.2.1 4, 1, .inr (.inr (.inr (.inl od)))))]]) (As := []) (rest := [.int (f_X9_doorCount q v)]) (c_X10_doorCount l G dh0 dh1 dh2 dh3 dh4 dh5 dh6 dh7 H.size d) ⟨hx, hb, hml, hown, hts⟩ g_L_199 hdv_X10_doorCount hK hST hS hP hD hA [10] [0, 1, 2, 3, 4, 5, 6, 7, 8, 9, 11, 12] rfl rfl rfl (k0 := 0) rfl rfl rfl ⟨Nat.le_of_ble_eq_true rfl, Nat.le_of_ble_eq_true rfl⟩ ⟨(by show _ ≤ 603072; omega), (by show _ ≤ 7182442; omega)⟩ rfl hl.1 rfl (Nat.le_of_ble_eq_true rfl) dL_law_692 (fun u_3 H locs huu hP hD hS => ?_)
  have eu_3 := huu
  have hP : va_P G.1 vwCl (fl [wMo G dh0 dh1 dh2 dh3 dh4 dh5 dh6 dh7 u_3.2, [(qh0, .inr (11, [.ref (va 0), .ref (oa 0), .int q.1, .ref hih0, .ref pgh0, .ref nbh0, .int q.2.1, .int q.2.2]))], wSt G va v, wSt G oa o, [(hih0, .inr (7, [.int hi.1, .int hi.2, .ref hsh]))], wHs G hsh hsa hs, [(pgh0, .inr (9, [.int pg.1, .int pg.2.1, .int pg.2.2.1, .int pg.2.2.2, .ref tbh0]))], [(tbh0, .inr (1, [.ref tbh1, .int (0 : Int32), .int tb.2.2.1, .int tb.2.2.2]))], [(tbh1, .inl (G.2.1 2, tb.1, .inl tb.2.1))], [(nbh0, .inr (1, [.ref nbh1, .int (0 : Int32), .int nb.2.2.1, .int nb.2.2.2]))], [(nbh1, .inl (G.2.1 2, nb.1, .inl nb.2.1))], [(owh, .inl (G.2.1 3, 1, .inr (.inl ow)))], [(odh, .inl (G.2.1 4, 1, .inr (.inr (.inr (.inl od)))))]]) H := hP
  have hD : va_D A (fl [wMo G dh0 dh1 dh2 dh3 dh4 dh5 dh6 dh7 u_3.2, [(qh0, .inr (11, [.ref (va 0), .ref (oa 0), .int q.1, .ref hih0, .ref pgh0, .ref nbh0, .int q.2.1, .int q.2.2]))], wSt G va v, wSt G oa o, [(hih0, .inr (7, [.int hi.1, .int hi.2, .ref hsh]))], wHs G hsh hsa hs, [(pgh0, .inr (9, [.int pg.1, .int pg.2.1, .int pg.2.2.1, .int pg.2.2.2, .ref tbh0]))], [(tbh0, .inr (1, [.ref tbh1, .int (0 : Int32), .int tb.2.2.1, .int tb.2.2.2]))], [(tbh1, .inl (G.2.1 2, tb.1, .inl tb.2.1))], [(nbh0, .inr (1, [.ref nbh1, .int (0 : Int32), .int nb.2.2.1, .int nb.2.2.2]))], [(nbh1, .inl (G.2.1 2, nb.1, .inl nb.2.1))], [(owh, .inl (G.2.1 3, 1, .inr (.inl ow)))], [(odh, .inl (G.2.1 4, 1, .inr (.inr (.inr (.inl od)))))]]) := hD
  refine W.eq (g2 := F0 m 695 ls [.int u_3.1, .int (f_X9_doorCount q v)]) rfl ?_
  have hF : f_K5 q v o hi hs pg tb nb d ow od xs j = (if (f_X9_doorCount q v) = u_3.1 then (q, v, o, hi, hs, pg, tb, nb, u_3.2, ow, od) else (q, v, o, hi, hs, pg, tb, nb, d, ow, od)) := by subst eu_3; exact hF
  have hok : (if (f_X9_doorCount q v) = u_3.1 then True else False) := by subst eu_3; exact hok
  refine lv_icmp_eq (tgt := 3104) hx hb dL_law_695 (by decide) (fun c_4 => ?_) (fun c_4 => ?_)
  · have hF := hF.trans (if_pos c_4)
    have hok := Eq.mp (if_pos c_4) hok
    have hP := fl_sub (cs := [[(qh0, .inr (11, [.ref (va 0), .ref (oa 0), .int q.1, .ref hih0, .ref pgh0, .ref nbh0, .int q.2.1, .int q.2.2]))], wSt G va v, wSt G oa o, [(hih0, .inr (7, [.int hi.1, .int hi.2, .ref hsh]))], wHs G hsh hsa hs, [(pgh0, .inr (9, [.int pg.1, .int pg.2.1, .int pg.2.2.1, .int pg.2.2.2, .ref tbh0]))], [(tbh0, .inr (1, [.ref tbh1, .int (0 : Int32), .int tb.2.2.1, .int tb.2.2.2]))], [(tbh1, .inl (G.2.1 2, tb.1, .inl tb.2.1))], [(nbh0, .inr (1, [.ref nbh1, .int (0 : Int32), .int nb.2.2.1, .int nb.2.2.2]))], [(nbh1, .inl (G.2.1 2, nb.1, .inl nb.2.1))], wMo G dh0 dh1 dh2 dh3 dh4 dh5 dh6 dh7 u_3.2, [(owh, .inl (G.2.1 3, 1, .inr (.inl ow)))], [(odh, .inl (G.2.1 4, 1, .inr (.inr (.inr (.inl od)))))]]) [1, 2, 3, 4, 5, 6, 7, 8, 9, 10, 0, 11, 12] rfl hP
    have hD := fl_subD (cs := [[(qh0, .inr (11, [.ref (va 0), .ref (oa 0), .int q.1, .ref hih0, .ref pgh0, .ref nbh0, .int q.2.1, .int q.2.2]))], wSt G va v, wSt G oa o, [(hih0, .inr (7, [.int hi.1, .int hi.2, .ref hsh]))], wHs G hsh hsa hs, [(pgh0, .inr (9, [.int pg.1, .int pg.2.1, .int pg.2.2.1, .int pg.2.2.2, .ref tbh0]))], [(tbh0, .inr (1, [.ref tbh1, .int (0 : Int32), .int tb.2.2.1, .int tb.2.2.2]))], [(tbh1, .inl (G.2.1 2, tb.1, .inl tb.2.1))], [(nbh0, .inr (1, [.ref nbh1, .int (0 : Int32), .int nb.2.2.1, .int nb.2.2.2]))], [(nbh1, .inl (G.2.1 2, nb.1, .inl nb.2.1))], wMo G dh0 dh1 dh2 dh3 dh4 dh5 dh6 dh7 u_3.2, [(owh, .inl (G.2.1 3, 1, .inr (.inl ow)))], [(odh, .inl (G.2.1 4, 1, .inr (.inr (.inr (.inl od)))))]]) [1, 2, 3, 4, 5, 6, 7, 8, 9, 10, 0, 11, 12] rfl rfl hD
    refine W.widen (k := kc + 22) (n := ks + 4206) (by omega) (by omega) ?_
    exact kk tbh1 nbh1 (q, v, o, hi, hs, pg, tb, nb, u_3.2, ow, od) _ _ ls hF.symm (lv_sub hl [0, 1, 2, 3, 4, 5] rfl) hP hD hS
  · have hF := hF.trans (if_neg c_4)
    have hok := Eq.mp (if_neg c_4) hok
    exact hok.elim
