theorem bp_70 : (Int8.ofInt 70).toInt32 = 70 := by decide
theorem cb_X11_305 : CBV RX11 305 yX11_lists cX11_lists 4 none 1 12 := ⟨⟨mw 32 15 rfl rfl, mw 0 5 rfl rfl, mw 32 18 rfl rfl, by decide, by decide, by decide +kernel⟩, mw 32 16 rfl rfl, mw 32 17 rfl rfl, TX11, 48, tyX11, cl_X11⟩
theorem cb_X11_308 : CBV RX11 308 yX11_nearest cX11_nearest 8 none 1 12 := ⟨⟨mw 32 19 rfl rfl, mw 0 5 rfl rfl, mw 32 22 rfl rfl, by decide, by decide, by decide +kernel⟩, mw 32 20 rfl rfl, mw 32 21 rfl rfl, TX11, 48, tyX11, cl_X11⟩
theorem cb_X11_311 : CBV RX11 311 yX11_shortest cX11_shortest 7 none 1 12 := ⟨⟨mw 32 27 rfl rfl, mw 0 5 rfl rfl, mw 32 30 rfl rfl, by decide, by decide, by decide +kernel⟩, mw 32 28 rfl rfl, mw 32 29 rfl rfl, TX11, 48, tyX11, cl_X11⟩
theorem cb_X11_324 : CBV RX11 324 yX11_here cX11_here 1 (some .int) 0 12 := ⟨⟨mw 39 22 rfl rfl, mw 0 5 rfl rfl, mw 39 25 rfl rfl, by decide, by decide, by decide +kernel⟩, mw 39 23 rfl rfl, mw 39 24 rfl rfl, TX11, 48, tyX11, cl_X11⟩
theorem cb_X11_328 : CBV RX11 328 yX11_digit cX11_digit 1 (some .int) 0 12 := ⟨⟨mw 39 30 rfl rfl, mw 0 5 rfl rfl, mw 40 1 rfl rfl, by decide, by decide, by decide +kernel⟩, mw 39 31 rfl rfl, mw 40 0 rfl rfl, TX11, 48, tyX11, cl_X11⟩
theorem cb_X11_346 : CBV RX11 346 yX11_number cX11_number 2 (some .int) 0 12 := ⟨⟨mw 39 26 rfl rfl, mw 0 5 rfl rfl, mw 39 29 rfl rfl, by decide, by decide, by decide +kernel⟩, mw 39 27 rfl rfl, mw 39 28 rfl rfl, TX11, 48, tyX11, cl_X11⟩
theorem cb_X11_349 : CBV RX11 349 yX11_must cX11_must 2 (some .boolean) 1 12 := ⟨⟨mw 40 2 rfl rfl, mw 0 5 rfl rfl, mw 40 5 rfl rfl, by decide, by decide, by decide +kernel⟩, mw 40 3 rfl rfl, mw 40 4 rfl rfl, TX11, 48, tyX11, cl_X11⟩
theorem cb_X11_356 : CBV RX11 356 yX11_row cX11_row 2 none 0 12 := ⟨⟨mw 40 6 rfl rfl, mw 0 5 rfl rfl, mw 40 9 rfl rfl, by decide, by decide, by decide +kernel⟩, mw 40 7 rfl rfl, mw 40 8 rfl rfl, TX11, 48, tyX11, cl_X11⟩
theorem cb_X11_365 : CBV RX11 365 yX11_faults cX11_faults 4 none 3 12 := ⟨⟨mw 40 10 rfl rfl, mw 0 5 rfl rfl, mw 40 13 rfl rfl, by decide, by decide, by decide +kernel⟩, mw 40 11 rfl rfl, mw 40 12 rfl rfl, TX11, 48, tyX11, cl_X11⟩
theorem cb_X11_367 : CBV RX11 367 yX11_refuses cX11_refuses 3 none 2 12 := ⟨⟨mw 40 18 rfl rfl, mw 0 5 rfl rfl, mw 40 21 rfl rfl, by decide, by decide, by decide +kernel⟩, mw 40 19 rfl rfl, mw 40 20 rfl rfl, TX11, 48, tyX11, cl_X11⟩
theorem cb_X11_370 : CBV RX11 370 yX11_field cX11_field 4 (some .int) 0 12 := ⟨⟨mw 40 22 rfl rfl, mw 0 5 rfl rfl, mw 40 25 rfl rfl, by decide, by decide, by decide +kernel⟩, mw 40 23 rfl rfl, mw 40 24 rfl rfl, TX11, 48, tyX11, cl_X11⟩
theorem cb_X11_373 : CBV RX11 373 yX11_readsItem cX11_readsItem 1 none 0 12 := ⟨⟨mw 39 12 rfl rfl, mw 0 5 rfl rfl, mw 39 15 rfl rfl, by decide, by decide, by decide +kernel⟩, mw 39 13 rfl rfl, mw 39 14 rfl rfl, TX11, 48, tyX11, cl_X11⟩
theorem cb_X11_376 : CBV RX11 376 yX11_isText cX11_isText 1 (some .boolean) 0 12 := ⟨⟨mw 39 8 rfl rfl, mw 0 5 rfl rfl, mw 39 11 rfl rfl, by decide, by decide, by decide +kernel⟩, mw 39 9 rfl rfl, mw 39 10 rfl rfl, TX11, 48, tyX11, cl_X11⟩
theorem cb_X11_379 : CBV RX11 379 yX11_does cX11_does 1 none 0 12 := ⟨⟨mw 40 14 rfl rfl, mw 0 5 rfl rfl, mw 40 17 rfl rfl, by decide, by decide, by decide +kernel⟩, mw 40 15 rfl rfl, mw 40 16 rfl rfl, TX11, 48, tyX11, cl_X11⟩
theorem cb_X11_382 : CBV RX11 382 yX11_backs cX11_backs 2 none 0 12 := ⟨⟨mw 40 26 rfl rfl, mw 0 5 rfl rfl, mw 40 29 rfl rfl, by decide, by decide, by decide +kernel⟩, mw 40 27 rfl rfl, mw 40 28 rfl rfl, TX11, 48, tyX11, cl_X11⟩
section
variable {p : Program} {l : Launch} {e : Env} {s : State} {m : MethodId} {args : Array Value} {below : List Frame} {meth : Method} {c : Code} {Q : State → Prop} {g : Geo}
def I_X11_way : List (Nat × Instr × Nat) := [(0, .aload_n 0, 1), (1, .iconst 0, 1), (2, .putfield 71, 3), (5, .aload_n 0, 1), (6, .iload_n 1, 1), (7, .invokevirtual 155, 3), (10, .ifCond .ne 9, 3), (13, .aload_n 0, 1), (14, .iconst 1, 1), (15, .invokevirtual 91, 3), (18, .ireturn, 1), (19, .iload_n 2, 1), (20, .iconst 0, 1), (21, .iconst 1, 1), (22, .invokestatic 75, 3), (25, .ifCond .ne 9, 3), (28, .aload_n 0, 1), (29, .iconst 2, 1), (30, .invokevirtual 91, 3), (33, .ireturn, 1), (34, .iload_n 2, 1), (35, .iconst 1, 1), (36, .if_icmp .ne 19, 3), (39, .aload_n 0, 1), (40, .iload_n 1, 1), (41, .invokevirtual 178, 3), (44, .bipush 9, 2), (46, .if_icmp .le 9, 3), (49, .aload_n 0, 1), (50, .iconst 3, 1), (51, .invokevirtual 91, 3), (54, .ireturn, 1), (55, .aload_n 0, 1), (56, .iload_n 1, 1), (57, .invokevirtual 305, 3), (60, .iload_n 3, 1), (61, .iconst (-1), 1), (62, .aload_n 0, 1), (63, .getfield 292, 3), (66, .iconst 1, 1), (67, .isub, 1), (68, .invokestatic 75, 3), (71, .ifCond .ne 9, 3), (74, .aload_n 0, 1), (75, .iconst 4, 1), (76, .invokevirtual 91, 3), (79, .ireturn, 1), (80, .iload_n 2, 1), (81, .ifCond .ne 11, 3), (84, .aload_n 0, 1), (85, .iload_n 1, 1), (86, .invokevirtual 308, 3), (89, .goto 8, 3), (92, .aload_n 0, 1), (93, .iload_n 1, 1), (94, .invokevirtual 311, 3), (97, .iload_n 3, 1), (98, .iconst (-1), 1), (99, .if_icmp .ne 10, 3), (102, .aload_n 0, 1), (103, .getfield 295, 3), (106, .goto 14, 3), (109, .aload_n 0, 1), (110, .getfield 53, 3), (113, .aload_n 0, 1), (114, .getfield 62, 3), (117, .iload_n 3, 1), (118, .iaload, 1), (119, .iaload, 1), (120, .ireturn, 1)]
set_option maxRecDepth 100000 in
theorem T_X11_way : ∀ q ∈ I_X11_way, decode cX11_way q.1 = .ok (q.2.1, q.2.2) := by decide +kernel
def f_X11_way_j97 (x3 : Int32) (σ : St) : Option (Int32 × St) :=
  if x3 = (-1) then some (σ 101 36, σ) else chk (inb x3 20) (chk (inb (σ 119 x3.toNatClampNeg) 20) (some (σ 116 (σ 119 x3.toNatClampNeg).toNatClampNeg, σ)))
set_option maxHeartbeats 4000000 in
set_option maxRecDepth 100000 in
theorem w_X11_way_j97 (X : Cx g RX11 cX11_way 4 (some .int) p s m args meth c) (x3 : Int32) (σ : St) {w : Int32 × St} (KR : ∀ (H : Heap) (locs : List Loc) (ls : Array Slot) (pc : Nat), Wd g s w.2 H locs → decode cX11_way pc = .ok (.ireturn, 1) → W p l e (rmm 6 143) s m args below meth c H locs 0 0 Q (F0 m pc ls [.int (w.1)])) {H : Heap} {locs : List Loc} {ls : Array Slot} (Y : Wd g s σ H locs) (hl : lv_has ls 4 [(0, .ref (g.2.2 (101))), (3, .int (x3))]) (h : f_X11_way_j97 x3 σ = some w) : W p l e (rmm 6 143) s m args below meth c H locs 0 0 Q (F0 m 97 ls []) := by
  unfold f_X11_way_j97 at h
  refine lv_iload_n X.1 X.2.1 (dk T_X11_way 56 rfl) rfl (lv_at hl 1 rfl) ?_
  refine lv_iconst (v := (-1)) X.1 X.2.1 (dk T_X11_way 57 rfl) ic_m1 ?_
  refine lv_icmp_ne (tgt := 109) X.1 X.2.1 (dk T_X11_way 58 rfl) rfl (fun c11 => ?_) (fun c11 => ?_)
  · replace h := ineg c11 h
    refine lv_aload_n X.1 X.2.1 (dk T_X11_way 62 rfl) rfl (lv_at hl 0 rfl) ?_
    refine gg X Y fl_X11_53 rfl rfl (dk T_X11_way 63 rfl) ?_
    refine lv_aload_n X.1 X.2.1 (dk T_X11_way 64 rfl) rfl (lv_at hl 0 rfl) ?_
    refine gg X Y fl_X11_62 rfl rfl (dk T_X11_way 65 rfl) ?_
    refine lv_iload_n X.1 X.2.1 (dk T_X11_way 66 rfl) rfl (lv_at hl 1 rfl) ?_
    obtain ⟨g12, h⟩ := gd h
    refine gil X Y rfl (inp g12) (dk T_X11_way 67 rfl) ?_
    obtain ⟨g13, h⟩ := gd h
    refine gil X Y rfl (inp g13) (dk T_X11_way 68 rfl) ?_
    obtain rfl := Option.some.inj h
    exact KR _ _ _ _ Y (dk T_X11_way 69 rfl)
  · replace h := ipos c11 h
    refine lv_aload_n X.1 X.2.1 (dk T_X11_way 59 rfl) rfl (lv_at hl 0 rfl) ?_
    refine gg X Y fl_X11_295 rfl rfl (dk T_X11_way 60 rfl) ?_
    refine lv_goto (tgt := 120) X.1 X.2.1 (dk T_X11_way 61 rfl) rfl ?_
    obtain rfl := Option.some.inj h
    exact KR _ _ _ _ Y (dk T_X11_way 69 rfl)
def f_X11_way_j55 (x1 : Int32) (x2 : Int32) (x3 : Int32) (σ : St) : Option (Int32 × St) :=
  (f_X11_lists x1 σ).bind fun q6 => (f_X11_in x3 (-1) ((q6 101 35) - 1)).bind fun q7 => if q7 = 0 then (f_X11_fails 4 q6).bind fun q15 => some (q15.1, q15.2) else if x2 = 0 then (f_X11_nearest x1 q6).bind fun q14 => f_X11_way_j97 x3 q14 else (f_X11_shortest x1 q6).bind fun q10 => f_X11_way_j97 x3 q10
set_option maxHeartbeats 4000000 in
set_option maxRecDepth 100000 in
theorem w_X11_way_j55 (X : Cx g RX11 cX11_way 4 (some .int) p s m args meth c) (x1 : Int32) (x2 : Int32) (x3 : Int32) (σ : St) {w : Int32 × St} (KR : ∀ (H : Heap) (locs : List Loc) (ls : Array Slot) (pc : Nat), Wd g s w.2 H locs → decode cX11_way pc = .ok (.ireturn, 1) → W p l e (rmm 6 143) s m args below meth c H locs 0 0 Q (F0 m pc ls [.int (w.1)])) {H : Heap} {locs : List Loc} {ls : Array Slot} (Y : Wd g s σ H locs) (hl : lv_has ls 4 [(0, .ref (g.2.2 (101))), (1, .int (x1)), (2, .int (x2)), (3, .int (x3))]) (h : f_X11_way_j55 x1 x2 x3 σ = some w) : W p l e (rmm 6 143) s m args below meth c H locs 0 0 Q (F0 m 55 ls []) := by
  unfold f_X11_way_j55 at h
  refine lv_aload_n X.1 X.2.1 (dk T_X11_way 32 rfl) rfl (lv_at hl 0 rfl) ?_
  refine lv_iload_n X.1 X.2.1 (dk T_X11_way 33 rfl) rfl (lv_at hl 1 rfl) ?_
  obtain ⟨q6, hq6, h⟩ := bs h
  refine gvV (rest := []) X Y (c_X11_lists x1 σ hq6) cb_X11_305 rfl hl.1 rfl rfl (Nat.le_of_ble_eq_true rfl) ⟨Nat.le_of_ble_eq_true rfl, Nat.le_of_ble_eq_true rfl⟩ (dk T_X11_way 34 rfl) (fun H locs Y => ?_)
  refine lv_iload_n X.1 X.2.1 (dk T_X11_way 35 rfl) rfl (lv_at hl 3 rfl) ?_
  refine lv_iconst (v := (-1)) X.1 X.2.1 (dk T_X11_way 36 rfl) ic_m1 ?_
  refine lv_aload_n X.1 X.2.1 (dk T_X11_way 37 rfl) rfl (lv_at hl 0 rfl) ?_
  refine gg X Y fl_X11_292 rfl rfl (dk T_X11_way 38 rfl) ?_
  refine lv_iconst (v := 1) X.1 X.2.1 (dk T_X11_way 39 rfl) ic_1 ?_
  refine lv_isub X.1 X.2.1 (dk T_X11_way 40 rfl) ?_
  obtain ⟨q7, hq7, h⟩ := bs h
  refine gsI (rest := []) X Y (c_X11_in x3 (-1) ((q6 101 35) - 1) q6 hq7) cb_X11_75 hl.1 rfl rfl (Nat.le_of_ble_eq_true rfl) ⟨Nat.le_of_ble_eq_true rfl, Nat.le_of_ble_eq_true rfl⟩ (dk T_X11_way 41 rfl) (fun H locs Y => ?_)
  refine lv_if_ne (tgt := 80) X.1 X.2.1 (dk T_X11_way 42 rfl) rfl (fun c8 => ?_) (fun c8 => ?_)
  · replace h := ineg c8 h
    refine lv_iload_n X.1 X.2.1 (dk T_X11_way 47 rfl) rfl (lv_at hl 2 rfl) ?_
    refine lv_if_ne (tgt := 92) X.1 X.2.1 (dk T_X11_way 48 rfl) rfl (fun c9 => ?_) (fun c9 => ?_)
    · replace h := ineg c9 h
      refine lv_aload_n X.1 X.2.1 (dk T_X11_way 53 rfl) rfl (lv_at hl 0 rfl) ?_
      refine lv_iload_n X.1 X.2.1 (dk T_X11_way 54 rfl) rfl (lv_at hl 1 rfl) ?_
      obtain ⟨q10, hq10, h⟩ := bs h
      refine gvV (rest := []) X Y (c_X11_shortest x1 q6 hq10) cb_X11_311 rfl hl.1 rfl rfl (Nat.le_of_ble_eq_true rfl) ⟨Nat.le_of_ble_eq_true rfl, Nat.le_of_ble_eq_true rfl⟩ (dk T_X11_way 55 rfl) (fun H locs Y => ?_)
      exact w_X11_way_j97 X x3 q10 KR Y (lv_sub hl [0, 3] rfl) h
    · replace h := ipos c9 h
      refine lv_aload_n X.1 X.2.1 (dk T_X11_way 49 rfl) rfl (lv_at hl 0 rfl) ?_
      refine lv_iload_n X.1 X.2.1 (dk T_X11_way 50 rfl) rfl (lv_at hl 1 rfl) ?_
      obtain ⟨q14, hq14, h⟩ := bs h
      refine gvV (rest := []) X Y (c_X11_nearest x1 q6 hq14) cb_X11_308 rfl hl.1 rfl rfl (Nat.le_of_ble_eq_true rfl) ⟨Nat.le_of_ble_eq_true rfl, Nat.le_of_ble_eq_true rfl⟩ (dk T_X11_way 51 rfl) (fun H locs Y => ?_)
      refine lv_goto (tgt := 97) X.1 X.2.1 (dk T_X11_way 52 rfl) rfl ?_
      exact w_X11_way_j97 X x3 q14 KR Y (lv_sub hl [0, 3] rfl) h
  · replace h := ipos c8 h
    refine lv_aload_n X.1 X.2.1 (dk T_X11_way 43 rfl) rfl (lv_at hl 0 rfl) ?_
    refine lv_iconst (v := 4) X.1 X.2.1 (dk T_X11_way 44 rfl) ic_4 ?_
    obtain ⟨q15, hq15, h⟩ := bs h
    refine gvI (rest := []) X Y (c_X11_fails 4 q6 hq15) cb_X11_91 rfl hl.1 rfl rfl (Nat.le_of_ble_eq_true rfl) ⟨Nat.le_of_ble_eq_true rfl, Nat.le_of_ble_eq_true rfl⟩ (dk T_X11_way 45 rfl) (fun H locs Y => ?_)
    obtain rfl := Option.some.inj h
    exact KR _ _ _ _ Y (dk T_X11_way 46 rfl)
def f_X11_way_0 (x1 : Int32) (x2 : Int32) (x3 : Int32) (σ : St) : Option (Int32 × St) :=
  (f_X11_isSheet x1 (up σ 101 0 0)).bind fun q1 => if q1 = 0 then (f_X11_fails 1 (up σ 101 0 0)).bind fun q20 => some (q20.1, q20.2) else (f_X11_in x2 0 1).bind fun q3 => if q3 = 0 then (f_X11_fails 2 (up σ 101 0 0)).bind fun q19 => some (q19.1, q19.2) else if x2 = 1 then (f_X11_partsOn x1 (up σ 101 0 0)).bind fun q16 => if q16 ≤ 9 then f_X11_way_j55 x1 x2 x3 (up σ 101 0 0) else (f_X11_fails 3 (up σ 101 0 0)).bind fun q18 => some (q18.1, q18.2) else f_X11_way_j55 x1 x2 x3 (up σ 101 0 0)
set_option maxHeartbeats 4000000 in
set_option maxRecDepth 100000 in
theorem w_X11_way_0 (X : Cx g RX11 cX11_way 4 (some .int) p s m args meth c) (x1 : Int32) (x2 : Int32) (x3 : Int32) (σ : St) {w : Int32 × St} (KR : ∀ (H : Heap) (locs : List Loc) (ls : Array Slot) (pc : Nat), Wd g s w.2 H locs → decode cX11_way pc = .ok (.ireturn, 1) → W p l e (rmm 6 143) s m args below meth c H locs 0 0 Q (F0 m pc ls [.int (w.1)])) {H : Heap} {locs : List Loc} {ls : Array Slot} (Y : Wd g s σ H locs) (hl : lv_has ls 4 [(0, .ref (g.2.2 (101))), (1, .int (x1)), (2, .int (x2)), (3, .int (x3))]) (h : f_X11_way_0 x1 x2 x3 σ = some w) : W p l e (rmm 6 143) s m args below meth c H locs 0 0 Q (F0 m 0 ls []) := by
  unfold f_X11_way_0 at h
  refine lv_aload_n X.1 X.2.1 (dk T_X11_way 0 rfl) rfl (lv_at hl 0 rfl) ?_
  refine lv_iconst (v := 0) X.1 X.2.1 (dk T_X11_way 1 rfl) ic_0 ?_
  refine gp X Y fp_X11_71 rfl (nar_int _) (dk T_X11_way 2 rfl) (fun H locs Y => ?_)
  refine lv_aload_n X.1 X.2.1 (dk T_X11_way 3 rfl) rfl (lv_at hl 0 rfl) ?_
  refine lv_iload_n X.1 X.2.1 (dk T_X11_way 4 rfl) rfl (lv_at hl 1 rfl) ?_
  obtain ⟨q1, hq1, h⟩ := bs h
  refine gvI (rest := []) X Y (c_X11_isSheet x1 (up σ 101 0 0) hq1) cb_X11_155 rfl hl.1 rfl rfl (Nat.le_of_ble_eq_true rfl) ⟨Nat.le_of_ble_eq_true rfl, Nat.le_of_ble_eq_true rfl⟩ (dk T_X11_way 5 rfl) (fun H locs Y => ?_)
  refine lv_if_ne (tgt := 19) X.1 X.2.1 (dk T_X11_way 6 rfl) rfl (fun c2 => ?_) (fun c2 => ?_)
  · replace h := ineg c2 h
    refine lv_iload_n X.1 X.2.1 (dk T_X11_way 11 rfl) rfl (lv_at hl 2 rfl) ?_
    refine lv_iconst (v := 0) X.1 X.2.1 (dk T_X11_way 12 rfl) ic_0 ?_
    refine lv_iconst (v := 1) X.1 X.2.1 (dk T_X11_way 13 rfl) ic_1 ?_
    obtain ⟨q3, hq3, h⟩ := bs h
    refine gsI (rest := []) X Y (c_X11_in x2 0 1 (up σ 101 0 0) hq3) cb_X11_75 hl.1 rfl rfl (Nat.le_of_ble_eq_true rfl) ⟨Nat.le_of_ble_eq_true rfl, Nat.le_of_ble_eq_true rfl⟩ (dk T_X11_way 14 rfl) (fun H locs Y => ?_)
    refine lv_if_ne (tgt := 34) X.1 X.2.1 (dk T_X11_way 15 rfl) rfl (fun c4 => ?_) (fun c4 => ?_)
    · replace h := ineg c4 h
      refine lv_iload_n X.1 X.2.1 (dk T_X11_way 20 rfl) rfl (lv_at hl 2 rfl) ?_
      refine lv_iconst (v := 1) X.1 X.2.1 (dk T_X11_way 21 rfl) ic_1 ?_
      refine lv_icmp_ne (tgt := 55) X.1 X.2.1 (dk T_X11_way 22 rfl) rfl (fun c5 => ?_) (fun c5 => ?_)
      · replace h := ineg c5 h
        exact w_X11_way_j55 X x1 x2 x3 (up σ 101 0 0) KR Y (lv_sub hl [0, 1, 2, 3] rfl) h
      · replace h := ipos c5 h
        refine lv_aload_n X.1 X.2.1 (dk T_X11_way 23 rfl) rfl (lv_at hl 0 rfl) ?_
        refine lv_iload_n X.1 X.2.1 (dk T_X11_way 24 rfl) rfl (lv_at hl 1 rfl) ?_
        obtain ⟨q16, hq16, h⟩ := bs h
        refine gvI (rest := []) X Y (c_X11_partsOn x1 (up σ 101 0 0) hq16) cb_X11_178 rfl hl.1 rfl rfl (Nat.le_of_ble_eq_true rfl) ⟨Nat.le_of_ble_eq_true rfl, Nat.le_of_ble_eq_true rfl⟩ (dk T_X11_way 25 rfl) (fun H locs Y => ?_)
        refine lv_bipush (v := 9) X.1 X.2.1 (dk T_X11_way 26 rfl) bp_9 ?_
        refine lv_icmp_le (tgt := 55) X.1 X.2.1 (dk T_X11_way 27 rfl) rfl (fun c17 => ?_) (fun c17 => ?_)
        · replace h := ipos c17 h
          exact w_X11_way_j55 X x1 x2 x3 (up σ 101 0 0) KR Y (lv_sub hl [0, 1, 2, 3] rfl) h
        · replace h := ineg c17 h
          refine lv_aload_n X.1 X.2.1 (dk T_X11_way 28 rfl) rfl (lv_at hl 0 rfl) ?_
          refine lv_iconst (v := 3) X.1 X.2.1 (dk T_X11_way 29 rfl) ic_3 ?_
          obtain ⟨q18, hq18, h⟩ := bs h
          refine gvI (rest := []) X Y (c_X11_fails 3 (up σ 101 0 0) hq18) cb_X11_91 rfl hl.1 rfl rfl (Nat.le_of_ble_eq_true rfl) ⟨Nat.le_of_ble_eq_true rfl, Nat.le_of_ble_eq_true rfl⟩ (dk T_X11_way 30 rfl) (fun H locs Y => ?_)
          obtain rfl := Option.some.inj h
          exact KR _ _ _ _ Y (dk T_X11_way 31 rfl)
    · replace h := ipos c4 h
      refine lv_aload_n X.1 X.2.1 (dk T_X11_way 16 rfl) rfl (lv_at hl 0 rfl) ?_
      refine lv_iconst (v := 2) X.1 X.2.1 (dk T_X11_way 17 rfl) ic_2 ?_
      obtain ⟨q19, hq19, h⟩ := bs h
      refine gvI (rest := []) X Y (c_X11_fails 2 (up σ 101 0 0) hq19) cb_X11_91 rfl hl.1 rfl rfl (Nat.le_of_ble_eq_true rfl) ⟨Nat.le_of_ble_eq_true rfl, Nat.le_of_ble_eq_true rfl⟩ (dk T_X11_way 18 rfl) (fun H locs Y => ?_)
      obtain rfl := Option.some.inj h
      exact KR _ _ _ _ Y (dk T_X11_way 19 rfl)
  · replace h := ipos c2 h
    refine lv_aload_n X.1 X.2.1 (dk T_X11_way 7 rfl) rfl (lv_at hl 0 rfl) ?_
    refine lv_iconst (v := 1) X.1 X.2.1 (dk T_X11_way 8 rfl) ic_1 ?_
    obtain ⟨q20, hq20, h⟩ := bs h
    refine gvI (rest := []) X Y (c_X11_fails 1 (up σ 101 0 0) hq20) cb_X11_91 rfl hl.1 rfl rfl (Nat.le_of_ble_eq_true rfl) ⟨Nat.le_of_ble_eq_true rfl, Nat.le_of_ble_eq_true rfl⟩ (dk T_X11_way 9 rfl) (fun H locs Y => ?_)
    obtain rfl := Option.some.inj h
    exact KR _ _ _ _ Y (dk T_X11_way 10 rfl)
def f_X11_way (x1 : Int32) (x2 : Int32) (x3 : Int32) (σ : St) : Option (Int32 × St) := f_X11_way_0 x1 x2 x3 σ
set_option maxHeartbeats 4000000 in
set_option maxRecDepth 100000 in
theorem c_X11_way {l : Launch} {g : Geo} (x1 : Int32) (x2 : Int32) (x3 : Int32) (σ : St) {w : Int32 × St} (h : f_X11_way x1 x2 x3 σ = some w) : CtI l yX11_way cX11_way 4 (some .int) (rmm 6 143) g [.ref (g.2.2 (101)), .int (x1), .int (x2), .int (x3)] σ w.1 w.2 := enI .int (by decide) rfl rfl (Nat.le_of_ble_eq_true rfl) (fun p e s m args below meth c Q X Y ls hl KR => w_X11_way_0 X x1 x2 x3 σ KR Y hl h)
def I_X11_count : List (Nat × Instr × Nat) := [(0, .aload_n 0, 1), (1, .iconst 0, 1), (2, .putfield 71, 3), (5, .iconst 0, 1), (6, .istore_n 2, 1), (7, .iload_n 1, 1), (8, .tableswitch 133 0 6 #[44, 51, 58, 65, 93, 123, 128], 44), (52, .aload_n 0, 1), (53, .getfield 7, 3), (56, .iconst 0, 1), (57, .iaload, 1), (58, .ireturn, 1), (59, .aload_n 0, 1), (60, .getfield 7, 3), (63, .iconst 1, 1), (64, .iaload, 1), (65, .ireturn, 1), (66, .aload_n 0, 1), (67, .getfield 7, 3), (70, .iconst 2, 1), (71, .iaload, 1), (72, .ireturn, 1), (73, .iconst 0, 1), (74, .istore_n 3, 1), (75, .iload_n 3, 1), (76, .aload_n 0, 1), (77, .getfield 7, 3), (80, .iconst 0, 1), (81, .iaload, 1), (82, .if_icmp .ge 17, 3), (85, .iload_n 2, 1), (86, .aload_n 0, 1), (87, .iload_n 3, 1), (88, .invokevirtual 149, 3), (91, .iadd, 1), (92, .istore_n 2, 1), (93, .iinc 3 1, 3), (96, .goto (-21), 3), (99, .iload_n 2, 1), (100, .ireturn, 1), (101, .iconst 0, 1), (102, .istore_n 3, 1), (103, .iload_n 3, 1), (104, .aload_n 0, 1), (105, .getfield 7, 3), (108, .iconst 0, 1), (109, .iaload, 1), (110, .if_icmp .ge 19, 3), (113, .iload_n 2, 1), (114, .aload_n 0, 1), (115, .iload_n 3, 1), (116, .iconst 0, 1), (117, .iconst (-1), 1), (118, .invokevirtual 181, 3), (121, .iadd, 1), (122, .istore_n 2, 1), (123, .iinc 3 1, 3), (126, .goto (-23), 3), (129, .iload_n 2, 1), (130, .ireturn, 1), (131, .aload_n 0, 1), (132, .getfield 79, 3), (135, .ireturn, 1), (136, .aload_n 0, 1), (137, .getfield 314, 3), (140, .ireturn, 1), (141, .aload_n 0, 1), (142, .iconst 1, 1), (143, .invokevirtual 91, 3), (146, .ireturn, 1)]
set_option maxRecDepth 100000 in
theorem T_X11_count : ∀ q ∈ I_X11_count, decode cX11_count q.1 = .ok (q.2.1, q.2.2) := by decide +kernel
def f_X11_count_l75 (σ : St) (z : Int32 × Int32) : Option ((Int32 × Int32) ⊕ (Int32)) :=
  chk (inb 0 761) (if (σ 102 (0 : Int32).toNatClampNeg) ≤ z.2 then some (.inr z.1) else (f_X11_cells z.2 σ).bind fun q10 => some (.inl (z.1 + q10, z.2 + 1)))
set_option maxHeartbeats 4000000 in
set_option maxRecDepth 100000 in
theorem w_X11_count_l75 (X : Cx g RX11 cX11_count 4 (some .int) p s m args meth c) (σ : St) {r : Int32} (KX0 : ∀ (v : Int32), r = v → ∀ (H : Heap) (locs : List Loc) (ls : Array Slot), Wd g s σ H locs → lv_has ls 4 [(2, .int (v))] → W p l e (rmm 5 127) s m args below meth c H locs 0 0 Q (F0 m 99 ls [])) : ∀ (n : Nat) (z : Int32 × Int32) {H : Heap} {locs : List Loc} {ls : Array Slot}, Wd g s σ H locs → lv_has ls 4 [(0, .ref (g.2.2 (101))), (2, .int (z.1)), (3, .int (z.2))] → lp (f_X11_count_l75 σ) n z = some r → W p l e (rmm 5 127) s m args below meth c H locs 0 0 Q (F0 m 75 ls []) := by
  intro n
  induction n with
  | zero => intro z H locs ls Y hl h; cases h
  | succ n ih =>
    intro z H locs ls Y hl h
    obtain ⟨w, h, hw⟩ := lps h
    have KB : ∀ (v0_ : Int32) (v1_ : Int32), w = .inl (v0_, v1_) → ∀ (H : Heap) (locs : List Loc) (ls : Array Slot), Wd g s σ H locs → lv_has ls 4 [(0, .ref (g.2.2 (101))), (2, .int (v0_)), (3, .int (v1_))] → W p l e (rmm 5 127) s m args below meth c H locs 0 0 Q (F0 m 75 ls []) := fun v0_ v1_ e H locs ls Y hl => ih (v0_, v1_) Y hl (lpl hw e)
    have KX0 := fun (v : Int32) (e : w = .inr v) => KX0 v (lpr hw e)
    unfold f_X11_count_l75 at h
    refine lv_iload_n X.1 X.2.1 (dk T_X11_count 24 rfl) rfl (lv_at hl 2 rfl) ?_
    refine lv_aload_n X.1 X.2.1 (dk T_X11_count 25 rfl) rfl (lv_at hl 0 rfl) ?_
    refine gg X Y fl_X11_7 rfl rfl (dk T_X11_count 26 rfl) ?_
    refine lv_iconst (v := 0) X.1 X.2.1 (dk T_X11_count 27 rfl) ic_0 ?_
    obtain ⟨g8, h⟩ := gd h
    refine gil X Y rfl (inp g8) (dk T_X11_count 28 rfl) ?_
    refine lv_icmp_ge (tgt := 99) X.1 X.2.1 (dk T_X11_count 29 rfl) rfl (fun c9 => ?_) (fun c9 => ?_)
    · replace h := ipos c9 h
      exact KX0 z.1 (Option.some.inj h).symm _ _ _ Y (lv_sub hl [1] rfl)
    · replace h := ineg c9 h
      refine lv_iload_n X.1 X.2.1 (dk T_X11_count 30 rfl) rfl (lv_at hl 1 rfl) ?_
      refine lv_aload_n X.1 X.2.1 (dk T_X11_count 31 rfl) rfl (lv_at hl 0 rfl) ?_
      refine lv_iload_n X.1 X.2.1 (dk T_X11_count 32 rfl) rfl (lv_at hl 2 rfl) ?_
      obtain ⟨q10, hq10, h⟩ := bs h
      refine gvI (rest := [.int (z.1)]) X Y (c_X11_cells z.2 σ hq10) cb_X11_149 rfl hl.1 rfl rfl (Nat.le_of_ble_eq_true rfl) ⟨Nat.le_of_ble_eq_true rfl, Nat.le_of_ble_eq_true rfl⟩ (dk T_X11_count 33 rfl) (fun H locs Y => ?_)
      refine lv_iadd X.1 X.2.1 (dk T_X11_count 34 rfl) ?_
      refine lv_istore_n (lv' := [(2, .int (z.1 + q10)), (0, .ref (g.2.2 (101))), (3, .int (z.2))]) X.1 X.2.1 (dk T_X11_count 35 rfl) rfl hl (Nat.le_of_ble_eq_true rfl) rfl (fun ls hl => ?_)
      refine lv_iinc (v := z.2 + 1) (lv' := [(3, .int (z.2 + 1)), (2, .int (z.1 + q10)), (0, .ref (g.2.2 (101)))]) X.1 X.2.1 (dk T_X11_count 36 rfl) hl (k := 2) rfl (icx ic_1) (Nat.le_of_ble_eq_true rfl) rfl (fun ls hl => ?_)
      refine lv_goto (tgt := 75) X.1 X.2.1 (dk T_X11_count 37 rfl) rfl ?_
      exact KB (z.1 + q10) (z.2 + 1) (Option.some.inj h).symm _ _ _ Y (lv_sub hl [2, 1, 0] rfl)
def f_X11_count_l103 (z : Int32 × Int32 × St) : Option ((Int32 × Int32 × St) ⊕ (Int32 × St)) :=
  chk (inb 0 761) (if (z.2.2 102 (0 : Int32).toNatClampNeg) ≤ z.2.1 then some (.inr (z.1, z.2.2)) else (f_X11_cutsOf z.2.1 0 (-1) z.2.2).bind fun q15 => some (.inl (z.1 + q15.1, z.2.1 + 1, q15.2)))
set_option maxHeartbeats 4000000 in
set_option maxRecDepth 100000 in
theorem w_X11_count_l103 (X : Cx g RX11 cX11_count 4 (some .int) p s m args meth c) (σ : St) {r : Int32 × St} (KX0 : ∀ (v0_ : Int32) (v1_ : St), r = (v0_, v1_) → ∀ (H : Heap) (locs : List Loc) (ls : Array Slot), Wd g s v1_ H locs → lv_has ls 4 [(2, .int (v0_))] → W p l e (rmm 5 127) s m args below meth c H locs 0 0 Q (F0 m 129 ls [])) : ∀ (n : Nat) (z : Int32 × Int32 × St) {H : Heap} {locs : List Loc} {ls : Array Slot}, Wd g s z.2.2 H locs → lv_has ls 4 [(0, .ref (g.2.2 (101))), (2, .int (z.1)), (3, .int (z.2.1))] → lp (f_X11_count_l103) n z = some r → W p l e (rmm 5 127) s m args below meth c H locs 0 0 Q (F0 m 103 ls []) := by
  intro n
  induction n with
  | zero => intro z H locs ls Y hl h; cases h
  | succ n ih =>
    intro z H locs ls Y hl h
    obtain ⟨w, h, hw⟩ := lps h
    have KB : ∀ (v0_ : Int32) (v1_ : Int32) (v2_ : St), w = .inl (v0_, v1_, v2_) → ∀ (H : Heap) (locs : List Loc) (ls : Array Slot), Wd g s v2_ H locs → lv_has ls 4 [(0, .ref (g.2.2 (101))), (2, .int (v0_)), (3, .int (v1_))] → W p l e (rmm 5 127) s m args below meth c H locs 0 0 Q (F0 m 103 ls []) := fun v0_ v1_ v2_ e H locs ls Y hl => ih (v0_, v1_, v2_) Y hl (lpl hw e)
    have KX0 := fun (v0_ : Int32) (v1_ : St) (e : w = .inr (v0_, v1_)) => KX0 v0_ v1_ (lpr hw e)
    unfold f_X11_count_l103 at h
    refine lv_iload_n X.1 X.2.1 (dk T_X11_count 42 rfl) rfl (lv_at hl 2 rfl) ?_
    refine lv_aload_n X.1 X.2.1 (dk T_X11_count 43 rfl) rfl (lv_at hl 0 rfl) ?_
    refine gg X Y fl_X11_7 rfl rfl (dk T_X11_count 44 rfl) ?_
    refine lv_iconst (v := 0) X.1 X.2.1 (dk T_X11_count 45 rfl) ic_0 ?_
    obtain ⟨g13, h⟩ := gd h
    refine gil X Y rfl (inp g13) (dk T_X11_count 46 rfl) ?_
    refine lv_icmp_ge (tgt := 129) X.1 X.2.1 (dk T_X11_count 47 rfl) rfl (fun c14 => ?_) (fun c14 => ?_)
    · replace h := ipos c14 h
      exact KX0 z.1 z.2.2 (Option.some.inj h).symm _ _ _ Y (lv_sub hl [1] rfl)
    · replace h := ineg c14 h
      refine lv_iload_n X.1 X.2.1 (dk T_X11_count 48 rfl) rfl (lv_at hl 1 rfl) ?_
      refine lv_aload_n X.1 X.2.1 (dk T_X11_count 49 rfl) rfl (lv_at hl 0 rfl) ?_
      refine lv_iload_n X.1 X.2.1 (dk T_X11_count 50 rfl) rfl (lv_at hl 2 rfl) ?_
      refine lv_iconst (v := 0) X.1 X.2.1 (dk T_X11_count 51 rfl) ic_0 ?_
      refine lv_iconst (v := (-1)) X.1 X.2.1 (dk T_X11_count 52 rfl) ic_m1 ?_
      obtain ⟨q15, hq15, h⟩ := bs h
      refine gvI (rest := [.int (z.1)]) X Y (c_X11_cutsOf z.2.1 0 (-1) z.2.2 hq15) cb_X11_181 rfl hl.1 rfl rfl (Nat.le_of_ble_eq_true rfl) ⟨Nat.le_of_ble_eq_true rfl, Nat.le_of_ble_eq_true rfl⟩ (dk T_X11_count 53 rfl) (fun H locs Y => ?_)
      refine lv_iadd X.1 X.2.1 (dk T_X11_count 54 rfl) ?_
      refine lv_istore_n (lv' := [(2, .int (z.1 + q15.1)), (0, .ref (g.2.2 (101))), (3, .int (z.2.1))]) X.1 X.2.1 (dk T_X11_count 55 rfl) rfl hl (Nat.le_of_ble_eq_true rfl) rfl (fun ls hl => ?_)
      refine lv_iinc (v := z.2.1 + 1) (lv' := [(3, .int (z.2.1 + 1)), (2, .int (z.1 + q15.1)), (0, .ref (g.2.2 (101)))]) X.1 X.2.1 (dk T_X11_count 56 rfl) hl (k := 2) rfl (icx ic_1) (Nat.le_of_ble_eq_true rfl) rfl (fun ls hl => ?_)
      refine lv_goto (tgt := 103) X.1 X.2.1 (dk T_X11_count 57 rfl) rfl ?_
      exact KB (z.1 + q15.1) (z.2.1 + 1) q15.2 (Option.some.inj h).symm _ _ _ Y (lv_sub hl [2, 1, 0] rfl)
def f_X11_count_0 (x1 : Int32) (σ : St) : Option (Int32 × St) :=
  if x1 = 0 then chk (inb 0 761) (some ((up σ 101 0 0) 102 (0 : Int32).toNatClampNeg, up σ 101 0 0)) else if x1 = 1 then chk (inb 1 761) (some ((up σ 101 0 0) 102 (1 : Int32).toNatClampNeg, up σ 101 0 0)) else if x1 = 2 then chk (inb 2 761) (some ((up σ 101 0 0) 102 (2 : Int32).toNatClampNeg, up σ 101 0 0)) else if x1 = 3 then (lp (f_X11_count_l75 (up σ 101 0 0)) FU (0, 0)).bind fun q11 => some (q11, up σ 101 0 0) else if x1 = 4 then (lp (f_X11_count_l103) FU (0, 0, up σ 101 0 0)).bind fun q16 => some (q16.1, q16.2) else if x1 = 5 then some (up σ 101 0 0 101 5, up σ 101 0 0) else if x1 = 6 then some (up σ 101 0 0 101 8, up σ 101 0 0) else (f_X11_fails 1 (up σ 101 0 0)).bind fun q19 => some (q19.1, q19.2)
set_option maxHeartbeats 4000000 in
set_option maxRecDepth 100000 in
theorem w_X11_count_0 (X : Cx g RX11 cX11_count 4 (some .int) p s m args meth c) (x1 : Int32) (σ : St) {w : Int32 × St} (KR : ∀ (H : Heap) (locs : List Loc) (ls : Array Slot) (pc : Nat), Wd g s w.2 H locs → decode cX11_count pc = .ok (.ireturn, 1) → W p l e (rmm 5 127) s m args below meth c H locs 0 0 Q (F0 m pc ls [.int (w.1)])) {H : Heap} {locs : List Loc} {ls : Array Slot} (Y : Wd g s σ H locs) (hl : lv_has ls 4 [(0, .ref (g.2.2 (101))), (1, .int (x1))]) (h : f_X11_count_0 x1 σ = some w) : W p l e (rmm 5 127) s m args below meth c H locs 0 0 Q (F0 m 0 ls []) := by
  unfold f_X11_count_0 at h
  refine lv_aload_n X.1 X.2.1 (dk T_X11_count 0 rfl) rfl (lv_at hl 0 rfl) ?_
  refine lv_iconst (v := 0) X.1 X.2.1 (dk T_X11_count 1 rfl) ic_0 ?_
  refine gp X Y fp_X11_71 rfl (nar_int _) (dk T_X11_count 2 rfl) (fun H locs Y => ?_)
  refine lv_iconst (v := 0) X.1 X.2.1 (dk T_X11_count 3 rfl) ic_0 ?_
  refine lv_istore_n (lv' := [(2, .int (0)), (0, .ref (g.2.2 (101))), (1, .int (x1))]) X.1 X.2.1 (dk T_X11_count 4 rfl) rfl hl (Nat.le_of_ble_eq_true rfl) rfl (fun ls hl => ?_)
  refine lv_iload_n X.1 X.2.1 (dk T_X11_count 5 rfl) rfl (lv_at hl 2 rfl) ?_
  rcases Decidable.em (x1 = 0) with c1 | c1
  · replace h := ipos c1 h
    refine lv_tableIn (tgt := 52) (off := 44) X.1 X.2.1 (dk T_X11_count 6 rfl) (ts1 c1 (by decide)) (ts2 c1 (by decide)) (ts3 c1 (by decide)) rfl ?_
    refine lv_aload_n X.1 X.2.1 (dk T_X11_count 7 rfl) rfl (lv_at hl 1 rfl) ?_
    refine gg X Y fl_X11_7 rfl rfl (dk T_X11_count 8 rfl) ?_
    refine lv_iconst (v := 0) X.1 X.2.1 (dk T_X11_count 9 rfl) ic_0 ?_
    obtain ⟨g2, h⟩ := gd h
    refine gil X Y rfl (inp g2) (dk T_X11_count 10 rfl) ?_
    obtain rfl := Option.some.inj h
    exact KR _ _ _ _ Y (dk T_X11_count 11 rfl)
  replace h := ineg c1 h
  rcases Decidable.em (x1 = 1) with c3 | c3
  · replace h := ipos c3 h
    refine lv_tableIn (tgt := 59) (off := 51) X.1 X.2.1 (dk T_X11_count 6 rfl) (ts1 c3 (by decide)) (ts2 c3 (by decide)) (ts3 c3 (by decide)) rfl ?_
    refine lv_aload_n X.1 X.2.1 (dk T_X11_count 12 rfl) rfl (lv_at hl 1 rfl) ?_
    refine gg X Y fl_X11_7 rfl rfl (dk T_X11_count 13 rfl) ?_
    refine lv_iconst (v := 1) X.1 X.2.1 (dk T_X11_count 14 rfl) ic_1 ?_
    obtain ⟨g4, h⟩ := gd h
    refine gil X Y rfl (inp g4) (dk T_X11_count 15 rfl) ?_
    obtain rfl := Option.some.inj h
    exact KR _ _ _ _ Y (dk T_X11_count 16 rfl)
  replace h := ineg c3 h
  rcases Decidable.em (x1 = 2) with c5 | c5
  · replace h := ipos c5 h
    refine lv_tableIn (tgt := 66) (off := 58) X.1 X.2.1 (dk T_X11_count 6 rfl) (ts1 c5 (by decide)) (ts2 c5 (by decide)) (ts3 c5 (by decide)) rfl ?_
    refine lv_aload_n X.1 X.2.1 (dk T_X11_count 17 rfl) rfl (lv_at hl 1 rfl) ?_
    refine gg X Y fl_X11_7 rfl rfl (dk T_X11_count 18 rfl) ?_
    refine lv_iconst (v := 2) X.1 X.2.1 (dk T_X11_count 19 rfl) ic_2 ?_
    obtain ⟨g6, h⟩ := gd h
    refine gil X Y rfl (inp g6) (dk T_X11_count 20 rfl) ?_
    obtain rfl := Option.some.inj h
    exact KR _ _ _ _ Y (dk T_X11_count 21 rfl)
  replace h := ineg c5 h
  rcases Decidable.em (x1 = 3) with c7 | c7
  · replace h := ipos c7 h
    refine lv_tableIn (tgt := 73) (off := 65) X.1 X.2.1 (dk T_X11_count 6 rfl) (ts1 c7 (by decide)) (ts2 c7 (by decide)) (ts3 c7 (by decide)) rfl ?_
    refine lv_iconst (v := 0) X.1 X.2.1 (dk T_X11_count 22 rfl) ic_0 ?_
    refine lv_istore_n (lv' := [(3, .int (0)), (2, .int (0)), (0, .ref (g.2.2 (101))), (1, .int (x1))]) X.1 X.2.1 (dk T_X11_count 23 rfl) rfl hl (Nat.le_of_ble_eq_true rfl) rfl (fun ls hl => ?_)
    obtain ⟨q11, hq11, h⟩ := bs h
    refine w_X11_count_l75 X (up σ 101 0 0) (fun v e H locs ls Y hl => ?_) FU (0, 0) Y (lv_sub hl [2, 1, 0] rfl) hq11
    · obtain rfl := e
      refine lv_iload_n X.1 X.2.1 (dk T_X11_count 38 rfl) rfl (lv_at hl 0 rfl) ?_
      obtain rfl := Option.some.inj h
      exact KR _ _ _ _ Y (dk T_X11_count 39 rfl)
  replace h := ineg c7 h
  rcases Decidable.em (x1 = 4) with c12 | c12
  · replace h := ipos c12 h
    refine lv_tableIn (tgt := 101) (off := 93) X.1 X.2.1 (dk T_X11_count 6 rfl) (ts1 c12 (by decide)) (ts2 c12 (by decide)) (ts3 c12 (by decide)) rfl ?_
    refine lv_iconst (v := 0) X.1 X.2.1 (dk T_X11_count 40 rfl) ic_0 ?_
    refine lv_istore_n (lv' := [(3, .int (0)), (2, .int (0)), (0, .ref (g.2.2 (101))), (1, .int (x1))]) X.1 X.2.1 (dk T_X11_count 41 rfl) rfl hl (Nat.le_of_ble_eq_true rfl) rfl (fun ls hl => ?_)
    obtain ⟨q16, hq16, h⟩ := bs h
    refine w_X11_count_l103 X σ (fun v0_ v1_ e H locs ls Y hl => ?_) FU (0, 0, up σ 101 0 0) Y (lv_sub hl [2, 1, 0] rfl) hq16
    · obtain ⟨rfl, rfl⟩ : v0_ = q16.1 ∧ v1_ = q16.2 := ⟨by rw [e], by rw [e]⟩
      refine lv_iload_n X.1 X.2.1 (dk T_X11_count 58 rfl) rfl (lv_at hl 0 rfl) ?_
      obtain rfl := Option.some.inj h
      exact KR _ _ _ _ Y (dk T_X11_count 59 rfl)
  replace h := ineg c12 h
  rcases Decidable.em (x1 = 5) with c17 | c17
  · replace h := ipos c17 h
    refine lv_tableIn (tgt := 131) (off := 123) X.1 X.2.1 (dk T_X11_count 6 rfl) (ts1 c17 (by decide)) (ts2 c17 (by decide)) (ts3 c17 (by decide)) rfl ?_
    refine lv_aload_n X.1 X.2.1 (dk T_X11_count 60 rfl) rfl (lv_at hl 1 rfl) ?_
    refine gg X Y fl_X11_79 rfl rfl (dk T_X11_count 61 rfl) ?_
    obtain rfl := Option.some.inj h
    exact KR _ _ _ _ Y (dk T_X11_count 62 rfl)
  replace h := ineg c17 h
  rcases Decidable.em (x1 = 6) with c18 | c18
  · replace h := ipos c18 h
    refine lv_tableIn (tgt := 136) (off := 128) X.1 X.2.1 (dk T_X11_count 6 rfl) (ts1 c18 (by decide)) (ts2 c18 (by decide)) (ts3 c18 (by decide)) rfl ?_
    refine lv_aload_n X.1 X.2.1 (dk T_X11_count 63 rfl) rfl (lv_at hl 1 rfl) ?_
    refine gg X Y fl_X11_314 rfl rfl (dk T_X11_count 64 rfl) ?_
    obtain rfl := Option.some.inj h
    exact KR _ _ _ _ Y (dk T_X11_count 65 rfl)
  replace h := ineg c18 h
  refine lv_tableOut (tgt := 141) X.1 X.2.1 (dk T_X11_count 6 rfl) (ts7n c1 c3 c5 c7 c12 c17 c18) rfl ?_
  refine lv_aload_n X.1 X.2.1 (dk T_X11_count 66 rfl) rfl (lv_at hl 1 rfl) ?_
  refine lv_iconst (v := 1) X.1 X.2.1 (dk T_X11_count 67 rfl) ic_1 ?_
  obtain ⟨q19, hq19, h⟩ := bs h
  refine gvI (rest := []) X Y (c_X11_fails 1 (up σ 101 0 0) hq19) cb_X11_91 rfl hl.1 rfl rfl (Nat.le_of_ble_eq_true rfl) ⟨Nat.le_of_ble_eq_true rfl, Nat.le_of_ble_eq_true rfl⟩ (dk T_X11_count 68 rfl) (fun H locs Y => ?_)
  obtain rfl := Option.some.inj h
  exact KR _ _ _ _ Y (dk T_X11_count 69 rfl)
def f_X11_count (x1 : Int32) (σ : St) : Option (Int32 × St) := f_X11_count_0 x1 σ
set_option maxHeartbeats 4000000 in
set_option maxRecDepth 100000 in
theorem c_X11_count {l : Launch} {g : Geo} (x1 : Int32) (σ : St) {w : Int32 × St} (h : f_X11_count x1 σ = some w) : CtI l yX11_count cX11_count 4 (some .int) (rmm 5 127) g [.ref (g.2.2 (101)), .int (x1)] σ w.1 w.2 := enI .int (by decide) rfl rfl (Nat.le_of_ble_eq_true rfl) (fun p e s m args below meth c Q X Y ls hl KR => w_X11_count_0 X x1 σ KR Y hl h)
def I_X11_feed : List (Nat × Instr × Nat) := [(0, .aload_n 0, 1), (1, .iconst 0, 1), (2, .putfield 71, 3), (5, .aload_n 0, 1), (6, .getfield 314, 3), (9, .bipush 70, 2), (11, .if_icmp .ne 9, 3), (14, .aload_n 0, 1), (15, .iconst 1, 1), (16, .invokevirtual 91, 3), (19, .ireturn, 1), (20, .aload_n 0, 1), (21, .getfield 22, 3), (24, .aload_n 0, 1), (25, .getfield 314, 3), (28, .iload_n 1, 1), (29, .iastore, 1), (30, .aload_n 0, 1), (31, .dup, 1), (32, .getfield 314, 3), (35, .iconst 1, 1), (36, .iadd, 1), (37, .putfield 314, 3), (40, .aload_n 0, 1), (41, .getfield 314, 3), (44, .ireturn, 1)]
set_option maxRecDepth 100000 in
theorem T_X11_feed : ∀ q ∈ I_X11_feed, decode cX11_feed q.1 = .ok (q.2.1, q.2.2) := by decide +kernel
def f_X11_feed_0 (x1 : Int32) (σ : St) : Option (Int32 × St) :=
  if (up σ 101 0 0 101 8) = 70 then (f_X11_fails 1 (up σ 101 0 0)).bind fun q3 => some (q3.1, q3.2) else chk (inb (up σ 101 0 0 101 8) 70) (some (up (up (up σ 101 0 0) 106 (up σ 101 0 0 101 8).toNatClampNeg x1) 101 8 ((up (up σ 101 0 0) 106 (up σ 101 0 0 101 8).toNatClampNeg x1 101 8) + 1) 101 8, up (up (up σ 101 0 0) 106 (up σ 101 0 0 101 8).toNatClampNeg x1) 101 8 ((up (up σ 101 0 0) 106 (up σ 101 0 0 101 8).toNatClampNeg x1 101 8) + 1)))
set_option maxHeartbeats 4000000 in
set_option maxRecDepth 100000 in
theorem w_X11_feed_0 (X : Cx g RX11 cX11_feed 2 (some .int) p s m args meth c) (x1 : Int32) (σ : St) {w : Int32 × St} (KR : ∀ (H : Heap) (locs : List Loc) (ls : Array Slot) (pc : Nat), Wd g s w.2 H locs → decode cX11_feed pc = .ok (.ireturn, 1) → W p l e (rmm 1 21) s m args below meth c H locs 0 0 Q (F0 m pc ls [.int (w.1)])) {H : Heap} {locs : List Loc} {ls : Array Slot} (Y : Wd g s σ H locs) (hl : lv_has ls 2 [(0, .ref (g.2.2 (101))), (1, .int (x1))]) (h : f_X11_feed_0 x1 σ = some w) : W p l e (rmm 1 21) s m args below meth c H locs 0 0 Q (F0 m 0 ls []) := by
  unfold f_X11_feed_0 at h
  refine lv_aload_n X.1 X.2.1 (dk T_X11_feed 0 rfl) rfl (lv_at hl 0 rfl) ?_
  refine lv_iconst (v := 0) X.1 X.2.1 (dk T_X11_feed 1 rfl) ic_0 ?_
  refine gp X Y fp_X11_71 rfl (nar_int _) (dk T_X11_feed 2 rfl) (fun H locs Y => ?_)
  refine lv_aload_n X.1 X.2.1 (dk T_X11_feed 3 rfl) rfl (lv_at hl 0 rfl) ?_
  refine gg X Y fl_X11_314 rfl rfl (dk T_X11_feed 4 rfl) ?_
  refine lv_bipush (v := 70) X.1 X.2.1 (dk T_X11_feed 5 rfl) bp_70 ?_
  refine lv_icmp_ne (tgt := 20) X.1 X.2.1 (dk T_X11_feed 6 rfl) rfl (fun c1 => ?_) (fun c1 => ?_)
  · replace h := ineg c1 h
    refine lv_aload_n X.1 X.2.1 (dk T_X11_feed 11 rfl) rfl (lv_at hl 0 rfl) ?_
    refine gg X Y fl_X11_22 rfl rfl (dk T_X11_feed 12 rfl) ?_
    refine lv_aload_n X.1 X.2.1 (dk T_X11_feed 13 rfl) rfl (lv_at hl 0 rfl) ?_
    refine gg X Y fl_X11_314 rfl rfl (dk T_X11_feed 14 rfl) ?_
    refine lv_iload_n X.1 X.2.1 (dk T_X11_feed 15 rfl) rfl (lv_at hl 1 rfl) ?_
    obtain ⟨g2, h⟩ := gd h
    refine gis X Y rfl (inp g2) (dk T_X11_feed 16 rfl) (fun H locs Y => ?_)
    refine lv_aload_n X.1 X.2.1 (dk T_X11_feed 17 rfl) rfl (lv_at hl 0 rfl) ?_
    refine lv_dup X.1 X.2.1 (dk T_X11_feed 18 rfl) rfl ?_
    refine gg X Y fl_X11_314 rfl rfl (dk T_X11_feed 19 rfl) ?_
    refine lv_iconst (v := 1) X.1 X.2.1 (dk T_X11_feed 20 rfl) ic_1 ?_
    refine lv_iadd X.1 X.2.1 (dk T_X11_feed 21 rfl) ?_
    refine gp X Y fp_X11_314 rfl (nar_int _) (dk T_X11_feed 22 rfl) (fun H locs Y => ?_)
    refine lv_aload_n X.1 X.2.1 (dk T_X11_feed 23 rfl) rfl (lv_at hl 0 rfl) ?_
    refine gg X Y fl_X11_314 rfl rfl (dk T_X11_feed 24 rfl) ?_
    obtain rfl := Option.some.inj h
    exact KR _ _ _ _ Y (dk T_X11_feed 25 rfl)
  · replace h := ipos c1 h
    refine lv_aload_n X.1 X.2.1 (dk T_X11_feed 7 rfl) rfl (lv_at hl 0 rfl) ?_
    refine lv_iconst (v := 1) X.1 X.2.1 (dk T_X11_feed 8 rfl) ic_1 ?_
    obtain ⟨q3, hq3, h⟩ := bs h
    refine gvI (rest := []) X Y (c_X11_fails 1 (up σ 101 0 0) hq3) cb_X11_91 rfl hl.1 rfl rfl (Nat.le_of_ble_eq_true rfl) ⟨Nat.le_of_ble_eq_true rfl, Nat.le_of_ble_eq_true rfl⟩ (dk T_X11_feed 9 rfl) (fun H locs Y => ?_)
    obtain rfl := Option.some.inj h
    exact KR _ _ _ _ Y (dk T_X11_feed 10 rfl)
def f_X11_feed (x1 : Int32) (σ : St) : Option (Int32 × St) := f_X11_feed_0 x1 σ
set_option maxHeartbeats 4000000 in
set_option maxRecDepth 100000 in
theorem c_X11_feed {l : Launch} {g : Geo} (x1 : Int32) (σ : St) {w : Int32 × St} (h : f_X11_feed x1 σ = some w) : CtI l yX11_feed cX11_feed 2 (some .int) (rmm 1 21) g [.ref (g.2.2 (101)), .int (x1)] σ w.1 w.2 := enI .int (by decide) rfl rfl (Nat.le_of_ble_eq_true rfl) (fun p e s m args below meth c Q X Y ls hl KR => w_X11_feed_0 X x1 σ KR Y hl h)
def I_X11_here : List (Nat × Instr × Nat) := [(0, .aload_n 0, 1), (1, .getfield 317, 3), (4, .aload_n 0, 1), (5, .getfield 314, 3), (8, .if_icmp .ge 15, 3), (11, .aload_n 0, 1), (12, .getfield 22, 3), (15, .aload_n 0, 1), (16, .getfield 317, 3), (19, .iaload, 1), (20, .goto 4, 3), (23, .iconst (-1), 1), (24, .ireturn, 1)]
set_option maxRecDepth 100000 in
theorem T_X11_here : ∀ q ∈ I_X11_here, decode cX11_here q.1 = .ok (q.2.1, q.2.2) := by decide +kernel
def f_X11_here_0 (σ : St) : Option (Int32) :=
  if (σ 101 8) ≤ (σ 101 38) then some (-1) else chk (inb (σ 101 38) 70) (some (σ 106 (σ 101 38).toNatClampNeg))
set_option maxHeartbeats 4000000 in
set_option maxRecDepth 100000 in
theorem w_X11_here_0 (X : Cx g RX11 cX11_here 1 (some .int) p s m args meth c) (σ : St) {w : Int32} (KR : ∀ (H : Heap) (locs : List Loc) (ls : Array Slot) (pc : Nat), Wd g s σ H locs → decode cX11_here pc = .ok (.ireturn, 1) → W p l e (rmm 0 0) s m args below meth c H locs 0 0 Q (F0 m pc ls [.int (w)])) {H : Heap} {locs : List Loc} {ls : Array Slot} (Y : Wd g s σ H locs) (hl : lv_has ls 1 [(0, .ref (g.2.2 (101)))]) (h : f_X11_here_0 σ = some w) : W p l e (rmm 0 0) s m args below meth c H locs 0 0 Q (F0 m 0 ls []) := by
  unfold f_X11_here_0 at h
  refine lv_aload_n X.1 X.2.1 (dk T_X11_here 0 rfl) rfl (lv_at hl 0 rfl) ?_
  refine gg X Y fl_X11_317 rfl rfl (dk T_X11_here 1 rfl) ?_
  refine lv_aload_n X.1 X.2.1 (dk T_X11_here 2 rfl) rfl (lv_at hl 0 rfl) ?_
  refine gg X Y fl_X11_314 rfl rfl (dk T_X11_here 3 rfl) ?_
  refine lv_icmp_ge (tgt := 23) X.1 X.2.1 (dk T_X11_here 4 rfl) rfl (fun c1 => ?_) (fun c1 => ?_)
  · replace h := ipos c1 h
    refine lv_iconst (v := (-1)) X.1 X.2.1 (dk T_X11_here 11 rfl) ic_m1 ?_
    obtain rfl := Option.some.inj h
    exact KR _ _ _ _ Y (dk T_X11_here 12 rfl)
  · replace h := ineg c1 h
    refine lv_aload_n X.1 X.2.1 (dk T_X11_here 5 rfl) rfl (lv_at hl 0 rfl) ?_
    refine gg X Y fl_X11_22 rfl rfl (dk T_X11_here 6 rfl) ?_
    refine lv_aload_n X.1 X.2.1 (dk T_X11_here 7 rfl) rfl (lv_at hl 0 rfl) ?_
    refine gg X Y fl_X11_317 rfl rfl (dk T_X11_here 8 rfl) ?_
    obtain ⟨g2, h⟩ := gd h
    refine gil X Y rfl (inp g2) (dk T_X11_here 9 rfl) ?_
    refine lv_goto (tgt := 24) X.1 X.2.1 (dk T_X11_here 10 rfl) rfl ?_
    obtain rfl := Option.some.inj h
    exact KR _ _ _ _ Y (dk T_X11_here 12 rfl)
def f_X11_here (σ : St) : Option (Int32) := f_X11_here_0 σ
set_option maxHeartbeats 4000000 in
set_option maxRecDepth 100000 in
theorem c_X11_here {l : Launch} {g : Geo} (σ : St) {w : Int32} (h : f_X11_here σ = some w) : CtI l yX11_here cX11_here 1 (some .int) (rmm 0 0) g [.ref (g.2.2 (101))] σ w σ := enI .int (by decide) rfl rfl (Nat.le_of_ble_eq_true rfl) (fun p e s m args below meth c Q X Y ls hl KR => w_X11_here_0 X σ KR Y hl h)
def I_X11_digit : List (Nat × Instr × Nat) := [(0, .aload_n 0, 1), (1, .aload_n 0, 1), (2, .getfield 320, 3), (5, .ifCond .eq 21, 3), (8, .aload_n 0, 1), (9, .invokevirtual 324, 3), (12, .bipush 48, 2), (14, .bipush 57, 2), (16, .invokestatic 75, 3), (19, .ifCond .eq 7, 3), (22, .iconst 1, 1), (23, .goto 4, 3), (26, .iconst 0, 1), (27, .putfield 320, 3), (30, .aload_n 0, 1), (31, .getfield 320, 3), (34, .ifCond .ne 5, 3), (37, .iconst 0, 1), (38, .ireturn, 1), (39, .aload_n 0, 1), (40, .dup, 1), (41, .getfield 317, 3), (44, .iconst 1, 1), (45, .iadd, 1), (46, .putfield 317, 3), (49, .aload_n 0, 1), (50, .getfield 22, 3), (53, .aload_n 0, 1), (54, .getfield 317, 3), (57, .iconst 1, 1), (58, .isub, 1), (59, .iaload, 1), (60, .bipush 48, 2), (62, .isub, 1), (63, .ireturn, 1)]
set_option maxRecDepth 100000 in
theorem T_X11_digit : ∀ q ∈ I_X11_digit, decode cX11_digit q.1 = .ok (q.2.1, q.2.2) := by decide +kernel
def f_X11_digit_j27 (s0 : Int32) (σ : St) : Option (Int32 × St) :=
  chk (okz s0) (if (up σ 101 39 s0 101 39) = 0 then some (0, up σ 101 39 s0) else chk (inb ((up (up σ 101 39 s0) 101 38 ((up σ 101 39 s0 101 38) + 1) 101 38) - 1) 70) (some (((up (up σ 101 39 s0) 101 38 ((up σ 101 39 s0 101 38) + 1)) 106 ((up (up σ 101 39 s0) 101 38 ((up σ 101 39 s0 101 38) + 1) 101 38) - 1).toNatClampNeg) - 48, up (up σ 101 39 s0) 101 38 ((up σ 101 39 s0 101 38) + 1))))
set_option maxHeartbeats 4000000 in
set_option maxRecDepth 100000 in
theorem w_X11_digit_j27 (X : Cx g RX11 cX11_digit 1 (some .int) p s m args meth c) (s0 : Int32) (σ : St) {w : Int32 × St} (KR : ∀ (H : Heap) (locs : List Loc) (ls : Array Slot) (pc : Nat), Wd g s w.2 H locs → decode cX11_digit pc = .ok (.ireturn, 1) → W p l e (rmm 1 22) s m args below meth c H locs 0 0 Q (F0 m pc ls [.int (w.1)])) {H : Heap} {locs : List Loc} {ls : Array Slot} (Y : Wd g s σ H locs) (hl : lv_has ls 1 [(0, .ref (g.2.2 (101)))]) (h : f_X11_digit_j27 s0 σ = some w) : W p l e (rmm 1 22) s m args below meth c H locs 0 0 Q (F0 m 27 ls [.int (s0), .ref (g.2.2 (101))]) := by
  unfold f_X11_digit_j27 at h
  obtain ⟨g2, h⟩ := gd h
  refine gp X Y fp_X11_320 rfl (nar_z g2) (dk T_X11_digit 13 rfl) (fun H locs Y => ?_)
  refine lv_aload_n X.1 X.2.1 (dk T_X11_digit 14 rfl) rfl (lv_at hl 0 rfl) ?_
  refine gg X Y fl_X11_320 rfl rfl (dk T_X11_digit 15 rfl) ?_
  refine lv_if_ne (tgt := 39) X.1 X.2.1 (dk T_X11_digit 16 rfl) rfl (fun c3 => ?_) (fun c3 => ?_)
  · replace h := ineg c3 h
    refine lv_aload_n X.1 X.2.1 (dk T_X11_digit 19 rfl) rfl (lv_at hl 0 rfl) ?_
    refine lv_dup X.1 X.2.1 (dk T_X11_digit 20 rfl) rfl ?_
    refine gg X Y fl_X11_317 rfl rfl (dk T_X11_digit 21 rfl) ?_
    refine lv_iconst (v := 1) X.1 X.2.1 (dk T_X11_digit 22 rfl) ic_1 ?_
    refine lv_iadd X.1 X.2.1 (dk T_X11_digit 23 rfl) ?_
    refine gp X Y fp_X11_317 rfl (nar_int _) (dk T_X11_digit 24 rfl) (fun H locs Y => ?_)
    refine lv_aload_n X.1 X.2.1 (dk T_X11_digit 25 rfl) rfl (lv_at hl 0 rfl) ?_
    refine gg X Y fl_X11_22 rfl rfl (dk T_X11_digit 26 rfl) ?_
    refine lv_aload_n X.1 X.2.1 (dk T_X11_digit 27 rfl) rfl (lv_at hl 0 rfl) ?_
    refine gg X Y fl_X11_317 rfl rfl (dk T_X11_digit 28 rfl) ?_
    refine lv_iconst (v := 1) X.1 X.2.1 (dk T_X11_digit 29 rfl) ic_1 ?_
    refine lv_isub X.1 X.2.1 (dk T_X11_digit 30 rfl) ?_
    obtain ⟨g4, h⟩ := gd h
    refine gil X Y rfl (inp g4) (dk T_X11_digit 31 rfl) ?_
    refine lv_bipush (v := 48) X.1 X.2.1 (dk T_X11_digit 32 rfl) bp_48 ?_
    refine lv_isub X.1 X.2.1 (dk T_X11_digit 33 rfl) ?_
    obtain rfl := Option.some.inj h
    exact KR _ _ _ _ Y (dk T_X11_digit 34 rfl)
  · replace h := ipos c3 h
    refine lv_iconst (v := 0) X.1 X.2.1 (dk T_X11_digit 17 rfl) ic_0 ?_
    obtain rfl := Option.some.inj h
    exact KR _ _ _ _ Y (dk T_X11_digit 18 rfl)
def f_X11_digit_j26 (σ : St) : Option (Int32 × St) :=
  f_X11_digit_j27 0 σ
set_option maxHeartbeats 4000000 in
set_option maxRecDepth 100000 in
theorem w_X11_digit_j26 (X : Cx g RX11 cX11_digit 1 (some .int) p s m args meth c) (σ : St) {w : Int32 × St} (KR : ∀ (H : Heap) (locs : List Loc) (ls : Array Slot) (pc : Nat), Wd g s w.2 H locs → decode cX11_digit pc = .ok (.ireturn, 1) → W p l e (rmm 1 22) s m args below meth c H locs 0 0 Q (F0 m pc ls [.int (w.1)])) {H : Heap} {locs : List Loc} {ls : Array Slot} (Y : Wd g s σ H locs) (hl : lv_has ls 1 [(0, .ref (g.2.2 (101)))]) (h : f_X11_digit_j26 σ = some w) : W p l e (rmm 1 22) s m args below meth c H locs 0 0 Q (F0 m 26 ls [.ref (g.2.2 (101))]) := by
  unfold f_X11_digit_j26 at h
  refine lv_iconst (v := 0) X.1 X.2.1 (dk T_X11_digit 12 rfl) ic_0 ?_
  exact w_X11_digit_j27 X 0 σ KR Y (lv_sub hl [0] rfl) h
def f_X11_digit_0 (σ : St) : Option (Int32 × St) :=
  if (σ 101 39) = 0 then f_X11_digit_j26 σ else (f_X11_here σ).bind fun q5 => (f_X11_in q5 48 57).bind fun q6 => if q6 = 0 then f_X11_digit_j26 σ else f_X11_digit_j27 1 σ
set_option maxHeartbeats 4000000 in
set_option maxRecDepth 100000 in
theorem w_X11_digit_0 (X : Cx g RX11 cX11_digit 1 (some .int) p s m args meth c) (σ : St) {w : Int32 × St} (KR : ∀ (H : Heap) (locs : List Loc) (ls : Array Slot) (pc : Nat), Wd g s w.2 H locs → decode cX11_digit pc = .ok (.ireturn, 1) → W p l e (rmm 1 22) s m args below meth c H locs 0 0 Q (F0 m pc ls [.int (w.1)])) {H : Heap} {locs : List Loc} {ls : Array Slot} (Y : Wd g s σ H locs) (hl : lv_has ls 1 [(0, .ref (g.2.2 (101)))]) (h : f_X11_digit_0 σ = some w) : W p l e (rmm 1 22) s m args below meth c H locs 0 0 Q (F0 m 0 ls []) := by
  unfold f_X11_digit_0 at h
  refine lv_aload_n X.1 X.2.1 (dk T_X11_digit 0 rfl) rfl (lv_at hl 0 rfl) ?_
  refine lv_aload_n X.1 X.2.1 (dk T_X11_digit 1 rfl) rfl (lv_at hl 0 rfl) ?_
  refine gg X Y fl_X11_320 rfl rfl (dk T_X11_digit 2 rfl) ?_
  refine lv_if_eq (tgt := 26) X.1 X.2.1 (dk T_X11_digit 3 rfl) rfl (fun c1 => ?_) (fun c1 => ?_)
  · replace h := ipos c1 h
    exact w_X11_digit_j26 X σ KR Y (lv_sub hl [0] rfl) h
  · replace h := ineg c1 h
    refine lv_aload_n X.1 X.2.1 (dk T_X11_digit 4 rfl) rfl (lv_at hl 0 rfl) ?_
    obtain ⟨q5, hq5, h⟩ := bs h
    refine gvI (rest := [.ref (g.2.2 (101))]) X Y (c_X11_here σ hq5) cb_X11_324 rfl hl.1 rfl rfl (Nat.le_of_ble_eq_true rfl) ⟨Nat.le_of_ble_eq_true rfl, Nat.le_of_ble_eq_true rfl⟩ (dk T_X11_digit 5 rfl) (fun H locs Y => ?_)
    refine lv_bipush (v := 48) X.1 X.2.1 (dk T_X11_digit 6 rfl) bp_48 ?_
    refine lv_bipush (v := 57) X.1 X.2.1 (dk T_X11_digit 7 rfl) bp_57 ?_
    obtain ⟨q6, hq6, h⟩ := bs h
    refine gsI (rest := [.ref (g.2.2 (101))]) X Y (c_X11_in q5 48 57 σ hq6) cb_X11_75 hl.1 rfl rfl (Nat.le_of_ble_eq_true rfl) ⟨Nat.le_of_ble_eq_true rfl, Nat.le_of_ble_eq_true rfl⟩ (dk T_X11_digit 8 rfl) (fun H locs Y => ?_)
    refine lv_if_eq (tgt := 26) X.1 X.2.1 (dk T_X11_digit 9 rfl) rfl (fun c7 => ?_) (fun c7 => ?_)
    · replace h := ipos c7 h
      exact w_X11_digit_j26 X σ KR Y (lv_sub hl [0] rfl) h
    · replace h := ineg c7 h
      refine lv_iconst (v := 1) X.1 X.2.1 (dk T_X11_digit 10 rfl) ic_1 ?_
      refine lv_goto (tgt := 27) X.1 X.2.1 (dk T_X11_digit 11 rfl) rfl ?_
      exact w_X11_digit_j27 X 1 σ KR Y (lv_sub hl [0] rfl) h
def f_X11_digit (σ : St) : Option (Int32 × St) := f_X11_digit_0 σ
set_option maxHeartbeats 4000000 in
set_option maxRecDepth 100000 in
theorem c_X11_digit {l : Launch} {g : Geo} (σ : St) {w : Int32 × St} (h : f_X11_digit σ = some w) : CtI l yX11_digit cX11_digit 1 (some .int) (rmm 1 22) g [.ref (g.2.2 (101))] σ w.1 w.2 := enI .int (by decide) rfl rfl (Nat.le_of_ble_eq_true rfl) (fun p e s m args below meth c Q X Y ls hl KR => w_X11_digit_0 X σ KR Y hl h)
def I_X11_number : List (Nat × Instr × Nat) := [(0, .aload_n 0, 1), (1, .invokevirtual 328, 3), (4, .istore_n 1, 1), (5, .aload_n 0, 1), (6, .getfield 320, 3), (9, .ifCond .eq 29, 3), (12, .aload_n 0, 1), (13, .invokevirtual 324, 3), (16, .bipush 48, 2), (18, .bipush 57, 2), (20, .invokestatic 75, 3), (23, .ifCond .eq 15, 3), (26, .bipush 10, 2), (28, .iload_n 1, 1), (29, .imul, 1), (30, .aload_n 0, 1), (31, .invokevirtual 328, 3), (34, .iadd, 1), (35, .goto 4, 3), (38, .iload_n 1, 1), (39, .ireturn, 1)]
set_option maxRecDepth 100000 in
theorem T_X11_number : ∀ q ∈ I_X11_number, decode cX11_number q.1 = .ok (q.2.1, q.2.2) := by decide +kernel
def f_X11_number_0 (σ : St) : Option (Int32 × St) :=
  (f_X11_digit σ).bind fun q1 => if (q1.2 101 39) = 0 then some (q1.1, q1.2) else (f_X11_here q1.2).bind fun q3 => (f_X11_in q3 48 57).bind fun q4 => if q4 = 0 then some (q1.1, q1.2) else (f_X11_digit q1.2).bind fun q6 => some ((10 * q1.1) + q6.1, q6.2)
set_option maxHeartbeats 4000000 in
set_option maxRecDepth 100000 in
theorem w_X11_number_0 (X : Cx g RX11 cX11_number 2 (some .int) p s m args meth c) (σ : St) {w : Int32 × St} (KR : ∀ (H : Heap) (locs : List Loc) (ls : Array Slot) (pc : Nat), Wd g s w.2 H locs → decode cX11_number pc = .ok (.ireturn, 1) → W p l e (rmm 2 42) s m args below meth c H locs 0 0 Q (F0 m pc ls [.int (w.1)])) {H : Heap} {locs : List Loc} {ls : Array Slot} (Y : Wd g s σ H locs) (hl : lv_has ls 2 [(0, .ref (g.2.2 (101)))]) (h : f_X11_number_0 σ = some w) : W p l e (rmm 2 42) s m args below meth c H locs 0 0 Q (F0 m 0 ls []) := by
  unfold f_X11_number_0 at h
  refine lv_aload_n X.1 X.2.1 (dk T_X11_number 0 rfl) rfl (lv_at hl 0 rfl) ?_
  obtain ⟨q1, hq1, h⟩ := bs h
  refine gvI (rest := []) X Y (c_X11_digit σ hq1) cb_X11_328 rfl hl.1 rfl rfl (Nat.le_of_ble_eq_true rfl) ⟨Nat.le_of_ble_eq_true rfl, Nat.le_of_ble_eq_true rfl⟩ (dk T_X11_number 1 rfl) (fun H locs Y => ?_)
  refine lv_istore_n (lv' := [(1, .int (q1.1)), (0, .ref (g.2.2 (101)))]) X.1 X.2.1 (dk T_X11_number 2 rfl) rfl hl (Nat.le_of_ble_eq_true rfl) rfl (fun ls hl => ?_)
  refine lv_aload_n X.1 X.2.1 (dk T_X11_number 3 rfl) rfl (lv_at hl 1 rfl) ?_
  refine gg X Y fl_X11_320 rfl rfl (dk T_X11_number 4 rfl) ?_
  refine lv_if_eq (tgt := 38) X.1 X.2.1 (dk T_X11_number 5 rfl) rfl (fun c2 => ?_) (fun c2 => ?_)
  · replace h := ipos c2 h
    refine lv_iload_n X.1 X.2.1 (dk T_X11_number 19 rfl) rfl (lv_at hl 0 rfl) ?_
    obtain rfl := Option.some.inj h
    exact KR _ _ _ _ Y (dk T_X11_number 20 rfl)
  · replace h := ineg c2 h
    refine lv_aload_n X.1 X.2.1 (dk T_X11_number 6 rfl) rfl (lv_at hl 1 rfl) ?_
    obtain ⟨q3, hq3, h⟩ := bs h
    refine gvI (rest := []) X Y (c_X11_here q1.2 hq3) cb_X11_324 rfl hl.1 rfl rfl (Nat.le_of_ble_eq_true rfl) ⟨Nat.le_of_ble_eq_true rfl, Nat.le_of_ble_eq_true rfl⟩ (dk T_X11_number 7 rfl) (fun H locs Y => ?_)
    refine lv_bipush (v := 48) X.1 X.2.1 (dk T_X11_number 8 rfl) bp_48 ?_
    refine lv_bipush (v := 57) X.1 X.2.1 (dk T_X11_number 9 rfl) bp_57 ?_
    obtain ⟨q4, hq4, h⟩ := bs h
    refine gsI (rest := []) X Y (c_X11_in q3 48 57 q1.2 hq4) cb_X11_75 hl.1 rfl rfl (Nat.le_of_ble_eq_true rfl) ⟨Nat.le_of_ble_eq_true rfl, Nat.le_of_ble_eq_true rfl⟩ (dk T_X11_number 10 rfl) (fun H locs Y => ?_)
    refine lv_if_eq (tgt := 38) X.1 X.2.1 (dk T_X11_number 11 rfl) rfl (fun c5 => ?_) (fun c5 => ?_)
    · replace h := ipos c5 h
      refine lv_iload_n X.1 X.2.1 (dk T_X11_number 19 rfl) rfl (lv_at hl 0 rfl) ?_
      obtain rfl := Option.some.inj h
      exact KR _ _ _ _ Y (dk T_X11_number 20 rfl)
    · replace h := ineg c5 h
      refine lv_bipush (v := 10) X.1 X.2.1 (dk T_X11_number 12 rfl) bp_10 ?_
      refine lv_iload_n X.1 X.2.1 (dk T_X11_number 13 rfl) rfl (lv_at hl 0 rfl) ?_
      refine lv_imul X.1 X.2.1 (dk T_X11_number 14 rfl) ?_
      refine lv_aload_n X.1 X.2.1 (dk T_X11_number 15 rfl) rfl (lv_at hl 1 rfl) ?_
      obtain ⟨q6, hq6, h⟩ := bs h
      refine gvI (rest := [.int (10 * q1.1)]) X Y (c_X11_digit q1.2 hq6) cb_X11_328 rfl hl.1 rfl rfl (Nat.le_of_ble_eq_true rfl) ⟨Nat.le_of_ble_eq_true rfl, Nat.le_of_ble_eq_true rfl⟩ (dk T_X11_number 16 rfl) (fun H locs Y => ?_)
      refine lv_iadd X.1 X.2.1 (dk T_X11_number 17 rfl) ?_
      refine lv_goto (tgt := 39) X.1 X.2.1 (dk T_X11_number 18 rfl) rfl ?_
      obtain rfl := Option.some.inj h
      exact KR _ _ _ _ Y (dk T_X11_number 20 rfl)
def f_X11_number (σ : St) : Option (Int32 × St) := f_X11_number_0 σ
set_option maxHeartbeats 4000000 in
set_option maxRecDepth 100000 in
theorem c_X11_number {l : Launch} {g : Geo} (σ : St) {w : Int32 × St} (h : f_X11_number σ = some w) : CtI l yX11_number cX11_number 2 (some .int) (rmm 2 42) g [.ref (g.2.2 (101))] σ w.1 w.2 := enI .int (by decide) rfl rfl (Nat.le_of_ble_eq_true rfl) (fun p e s m args below meth c Q X Y ls hl KR => w_X11_number_0 X σ KR Y hl h)
def I_X11_must : List (Nat × Instr × Nat) := [(0, .aload_n 0, 1), (1, .aload_n 0, 1), (2, .getfield 320, 3), (5, .ifCond .eq 15, 3), (8, .aload_n 0, 1), (9, .invokevirtual 324, 3), (12, .iload_n 1, 1), (13, .if_icmp .ne 7, 3), (16, .iconst 1, 1), (17, .goto 4, 3), (20, .iconst 0, 1), (21, .putfield 320, 3), (24, .aload_n 0, 1), (25, .dup, 1), (26, .getfield 317, 3), (29, .aload_n 0, 1), (30, .getfield 320, 3), (33, .ifCond .eq 7, 3), (36, .iconst 1, 1), (37, .goto 4, 3), (40, .iconst 0, 1), (41, .iadd, 1), (42, .putfield 317, 3), (45, .aload_n 0, 1), (46, .getfield 320, 3), (49, .ireturn, 1)]
set_option maxRecDepth 100000 in
theorem T_X11_must : ∀ q ∈ I_X11_must, decode cX11_must q.1 = .ok (q.2.1, q.2.2) := by decide +kernel
def f_X11_must_j41 (s0 : Int32) (s1 : Int32) (σ : St) : Option (Int32 × St) :=
  some (up σ 101 38 (s1 + s0) 101 39, up σ 101 38 (s1 + s0))
set_option maxHeartbeats 4000000 in
set_option maxRecDepth 100000 in
theorem w_X11_must_j41 (X : Cx g RX11 cX11_must 2 (some .boolean) p s m args meth c) (s0 : Int32) (s1 : Int32) (σ : St) {w : Int32 × St} (KR : ∀ (H : Heap) (locs : List Loc) (ls : Array Slot) (pc : Nat), Wd g s w.2 H locs → decode cX11_must pc = .ok (.ireturn, 1) → W p l e (rmm 1 20) s m args below meth c H locs 0 0 Q (F0 m pc ls [.int (w.1)])) {H : Heap} {locs : List Loc} {ls : Array Slot} (Y : Wd g s σ H locs) (hl : lv_has ls 2 [(0, .ref (g.2.2 (101)))]) (h : f_X11_must_j41 s0 s1 σ = some w) : W p l e (rmm 1 20) s m args below meth c H locs 0 0 Q (F0 m 41 ls [.int (s0), .int (s1), .ref (g.2.2 (101))]) := by
  unfold f_X11_must_j41 at h
  refine lv_iadd X.1 X.2.1 (dk T_X11_must 21 rfl) ?_
  refine gp X Y fp_X11_317 rfl (nar_int _) (dk T_X11_must 22 rfl) (fun H locs Y => ?_)
  refine lv_aload_n X.1 X.2.1 (dk T_X11_must 23 rfl) rfl (lv_at hl 0 rfl) ?_
  refine gg X Y fl_X11_320 rfl rfl (dk T_X11_must 24 rfl) ?_
  obtain rfl := Option.some.inj h
  exact KR _ _ _ _ Y (dk T_X11_must 25 rfl)
def f_X11_must_j21 (s0 : Int32) (σ : St) : Option (Int32 × St) :=
  chk (okz s0) (if (up σ 101 39 s0 101 39) = 0 then f_X11_must_j41 0 (up σ 101 39 s0 101 38) (up σ 101 39 s0) else f_X11_must_j41 1 (up σ 101 39 s0 101 38) (up σ 101 39 s0))
set_option maxHeartbeats 4000000 in
set_option maxRecDepth 100000 in
theorem w_X11_must_j21 (X : Cx g RX11 cX11_must 2 (some .boolean) p s m args meth c) (s0 : Int32) (σ : St) {w : Int32 × St} (KR : ∀ (H : Heap) (locs : List Loc) (ls : Array Slot) (pc : Nat), Wd g s w.2 H locs → decode cX11_must pc = .ok (.ireturn, 1) → W p l e (rmm 1 20) s m args below meth c H locs 0 0 Q (F0 m pc ls [.int (w.1)])) {H : Heap} {locs : List Loc} {ls : Array Slot} (Y : Wd g s σ H locs) (hl : lv_has ls 2 [(0, .ref (g.2.2 (101)))]) (h : f_X11_must_j21 s0 σ = some w) : W p l e (rmm 1 20) s m args below meth c H locs 0 0 Q (F0 m 21 ls [.int (s0), .ref (g.2.2 (101))]) := by
  unfold f_X11_must_j21 at h
  obtain ⟨g2, h⟩ := gd h
  refine gp X Y fp_X11_320 rfl (nar_z g2) (dk T_X11_must 11 rfl) (fun H locs Y => ?_)
  refine lv_aload_n X.1 X.2.1 (dk T_X11_must 12 rfl) rfl (lv_at hl 0 rfl) ?_
  refine lv_dup X.1 X.2.1 (dk T_X11_must 13 rfl) rfl ?_
  refine gg X Y fl_X11_317 rfl rfl (dk T_X11_must 14 rfl) ?_
  refine lv_aload_n X.1 X.2.1 (dk T_X11_must 15 rfl) rfl (lv_at hl 0 rfl) ?_
  refine gg X Y fl_X11_320 rfl rfl (dk T_X11_must 16 rfl) ?_
  refine lv_if_eq (tgt := 40) X.1 X.2.1 (dk T_X11_must 17 rfl) rfl (fun c3 => ?_) (fun c3 => ?_)
  · replace h := ipos c3 h
    refine lv_iconst (v := 0) X.1 X.2.1 (dk T_X11_must 20 rfl) ic_0 ?_
    exact w_X11_must_j41 X 0 (up σ 101 39 s0 101 38) (up σ 101 39 s0) KR Y (lv_sub hl [0] rfl) h
  · replace h := ineg c3 h
    refine lv_iconst (v := 1) X.1 X.2.1 (dk T_X11_must 18 rfl) ic_1 ?_
    refine lv_goto (tgt := 41) X.1 X.2.1 (dk T_X11_must 19 rfl) rfl ?_
    exact w_X11_must_j41 X 1 (up σ 101 39 s0 101 38) (up σ 101 39 s0) KR Y (lv_sub hl [0] rfl) h
def f_X11_must_j20 (σ : St) : Option (Int32 × St) :=
  f_X11_must_j21 0 σ
set_option maxHeartbeats 4000000 in
set_option maxRecDepth 100000 in
theorem w_X11_must_j20 (X : Cx g RX11 cX11_must 2 (some .boolean) p s m args meth c) (σ : St) {w : Int32 × St} (KR : ∀ (H : Heap) (locs : List Loc) (ls : Array Slot) (pc : Nat), Wd g s w.2 H locs → decode cX11_must pc = .ok (.ireturn, 1) → W p l e (rmm 1 20) s m args below meth c H locs 0 0 Q (F0 m pc ls [.int (w.1)])) {H : Heap} {locs : List Loc} {ls : Array Slot} (Y : Wd g s σ H locs) (hl : lv_has ls 2 [(0, .ref (g.2.2 (101)))]) (h : f_X11_must_j20 σ = some w) : W p l e (rmm 1 20) s m args below meth c H locs 0 0 Q (F0 m 20 ls [.ref (g.2.2 (101))]) := by
  unfold f_X11_must_j20 at h
  refine lv_iconst (v := 0) X.1 X.2.1 (dk T_X11_must 10 rfl) ic_0 ?_
  exact w_X11_must_j21 X 0 σ KR Y (lv_sub hl [0] rfl) h
def f_X11_must_0 (x1 : Int32) (σ : St) : Option (Int32 × St) :=
  if (σ 101 39) = 0 then f_X11_must_j20 σ else (f_X11_here σ).bind fun q4 => if q4 = x1 then f_X11_must_j21 1 σ else f_X11_must_j20 σ
set_option maxHeartbeats 4000000 in
set_option maxRecDepth 100000 in
theorem w_X11_must_0 (X : Cx g RX11 cX11_must 2 (some .boolean) p s m args meth c) (x1 : Int32) (σ : St) {w : Int32 × St} (KR : ∀ (H : Heap) (locs : List Loc) (ls : Array Slot) (pc : Nat), Wd g s w.2 H locs → decode cX11_must pc = .ok (.ireturn, 1) → W p l e (rmm 1 20) s m args below meth c H locs 0 0 Q (F0 m pc ls [.int (w.1)])) {H : Heap} {locs : List Loc} {ls : Array Slot} (Y : Wd g s σ H locs) (hl : lv_has ls 2 [(0, .ref (g.2.2 (101))), (1, .int (x1))]) (h : f_X11_must_0 x1 σ = some w) : W p l e (rmm 1 20) s m args below meth c H locs 0 0 Q (F0 m 0 ls []) := by
  unfold f_X11_must_0 at h
  refine lv_aload_n X.1 X.2.1 (dk T_X11_must 0 rfl) rfl (lv_at hl 0 rfl) ?_
  refine lv_aload_n X.1 X.2.1 (dk T_X11_must 1 rfl) rfl (lv_at hl 0 rfl) ?_
  refine gg X Y fl_X11_320 rfl rfl (dk T_X11_must 2 rfl) ?_
  refine lv_if_eq (tgt := 20) X.1 X.2.1 (dk T_X11_must 3 rfl) rfl (fun c1 => ?_) (fun c1 => ?_)
  · replace h := ipos c1 h
    exact w_X11_must_j20 X σ KR Y (lv_sub hl [0] rfl) h
  · replace h := ineg c1 h
    refine lv_aload_n X.1 X.2.1 (dk T_X11_must 4 rfl) rfl (lv_at hl 0 rfl) ?_
    obtain ⟨q4, hq4, h⟩ := bs h
    refine gvI (rest := [.ref (g.2.2 (101))]) X Y (c_X11_here σ hq4) cb_X11_324 rfl hl.1 rfl rfl (Nat.le_of_ble_eq_true rfl) ⟨Nat.le_of_ble_eq_true rfl, Nat.le_of_ble_eq_true rfl⟩ (dk T_X11_must 5 rfl) (fun H locs Y => ?_)
    refine lv_iload_n X.1 X.2.1 (dk T_X11_must 6 rfl) rfl (lv_at hl 1 rfl) ?_
    refine lv_icmp_ne (tgt := 20) X.1 X.2.1 (dk T_X11_must 7 rfl) rfl (fun c5 => ?_) (fun c5 => ?_)
    · replace h := ineg c5 h
      exact w_X11_must_j20 X σ KR Y (lv_sub hl [0] rfl) h
    · replace h := ipos c5 h
      refine lv_iconst (v := 1) X.1 X.2.1 (dk T_X11_must 8 rfl) ic_1 ?_
      refine lv_goto (tgt := 21) X.1 X.2.1 (dk T_X11_must 9 rfl) rfl ?_
      exact w_X11_must_j21 X 1 σ KR Y (lv_sub hl [0] rfl) h
def f_X11_must (x1 : Int32) (σ : St) : Option (Int32 × St) := bzW (f_X11_must_0 x1 σ)
set_option maxHeartbeats 4000000 in
set_option maxRecDepth 100000 in
theorem c_X11_must {l : Launch} {g : Geo} (x1 : Int32) (σ : St) {w : Int32 × St} (h : f_X11_must x1 σ = some w) : CtI l yX11_must cX11_must 2 (some .boolean) (rmm 1 20) g [.ref (g.2.2 (101)), .int (x1)] σ w.1 w.2 := by
  obtain ⟨h, hz⟩ := bzW_s h
  exact enI .boolean (by decide) rfl (bz_n hz) (Nat.le_of_ble_eq_true rfl) (fun p e s m args below meth c Q X Y ls hl KR => w_X11_must_0 X x1 σ KR Y hl h)
def I_X11_row : List (Nat × Instr × Nat) := [(0, .iconst 0, 1), (1, .istore_n 1, 1), (2, .aload_n 0, 1), (3, .aload_n 0, 1), (4, .getfield 320, 3), (7, .ifCond .eq 25, 3), (10, .aload_n 0, 1), (11, .invokevirtual 324, 3), (14, .bipush 35, 2), (16, .if_icmp .eq 12, 3), (19, .aload_n 0, 1), (20, .invokevirtual 324, 3), (23, .bipush 46, 2), (25, .if_icmp .ne 7, 3), (28, .iconst 1, 1), (29, .goto 4, 3), (32, .iconst 0, 1), (33, .putfield 320, 3), (36, .aload_n 0, 1), (37, .getfield 320, 3), (40, .ifCond .eq 78, 3), (43, .aload_n 0, 1), (44, .invokevirtual 324, 3), (47, .bipush 35, 2), (49, .if_icmp .eq 12, 3), (52, .aload_n 0, 1), (53, .invokevirtual 324, 3), (56, .bipush 46, 2), (58, .if_icmp .ne 60, 3), (61, .iload_n 1, 1), (62, .iconst 4, 1), (63, .if_icmp .ge 39, 3), (66, .aload_n 0, 1), (67, .getfield 331, 3), (70, .iconst 4, 1), (71, .if_icmp .ge 31, 3), (74, .aload_n 0, 1), (75, .invokevirtual 324, 3), (78, .bipush 35, 2), (80, .if_icmp .ne 22, 3), (83, .aload_n 0, 1), (84, .dup, 1), (85, .getfield 334, 3), (88, .iconst 1, 1), (89, .iconst 4, 1), (90, .aload_n 0, 1), (91, .getfield 331, 3), (94, .imul, 1), (95, .iload_n 1, 1), (96, .iadd, 1), (97, .ishl, 1), (98, .ior, 1), (99, .putfield 334, 3), (102, .iinc 1 1, 3), (105, .aload_n 0, 1), (106, .dup, 1), (107, .getfield 317, 3), (110, .iconst 1, 1), (111, .iadd, 1), (112, .putfield 317, 3), (115, .goto (-79), 3), (118, .aload_n 0, 1), (119, .aload_n 0, 1), (120, .getfield 337, 3), (123, .ifCond .ne 31, 3), (126, .aload_n 0, 1), (127, .getfield 331, 3), (130, .ifCond .le 11, 3), (133, .iload_n 1, 1), (134, .aload_n 0, 1), (135, .getfield 340, 3), (138, .if_icmp .ne 16, 3), (141, .iload_n 1, 1), (142, .iconst 4, 1), (143, .if_icmp .gt 11, 3), (146, .aload_n 0, 1), (147, .getfield 331, 3), (150, .iconst 3, 1), (151, .if_icmp .le 7, 3), (154, .iconst 1, 1), (155, .goto 4, 3), (158, .iconst 0, 1), (159, .putfield 337, 3), (162, .aload_n 0, 1), (163, .iload_n 1, 1), (164, .putfield 340, 3), (167, .aload_n 0, 1), (168, .dup, 1), (169, .getfield 331, 3), (172, .iconst 1, 1), (173, .iadd, 1), (174, .putfield 331, 3), (177, .return_, 1)]
set_option maxRecDepth 100000 in
theorem T_X11_row : ∀ q ∈ I_X11_row, decode cX11_row q.1 = .ok (q.2.1, q.2.2) := by decide +kernel
def f_X11_row_j102 (x1 : Int32) (σ : St) : Option ((Int32 × St) ⊕ (Int32 × St)) :=
  some (.inl (x1 + 1, up σ 101 38 ((σ 101 38) + 1)))
set_option maxHeartbeats 4000000 in
set_option maxRecDepth 100000 in
theorem w_X11_row_j102 (X : Cx g RX11 cX11_row 2 none p s m args meth c) (x1 : Int32) (σ : St) {w : (Int32 × St) ⊕ (Int32 × St)} (KB : ∀ (v0_ : Int32) (v1_ : St), w = .inl (v0_, v1_) → ∀ (H : Heap) (locs : List Loc) (ls : Array Slot), Wd g s v1_ H locs → lv_has ls 2 [(0, .ref (g.2.2 (101))), (1, .int (v0_))] → W p l e (rmm 1 20) s m args below meth c H locs 0 0 Q (F0 m 36 ls [])) (KX0 : ∀ (v0_ : Int32) (v1_ : St), w = .inr (v0_, v1_) → ∀ (H : Heap) (locs : List Loc) (ls : Array Slot), Wd g s v1_ H locs → lv_has ls 2 [(0, .ref (g.2.2 (101))), (1, .int (v0_))] → W p l e (rmm 1 20) s m args below meth c H locs 0 0 Q (F0 m 118 ls [])) {H : Heap} {locs : List Loc} {ls : Array Slot} (Y : Wd g s σ H locs) (hl : lv_has ls 2 [(0, .ref (g.2.2 (101))), (1, .int (x1))]) (h : f_X11_row_j102 x1 σ = some w) : W p l e (rmm 1 20) s m args below meth c H locs 0 0 Q (F0 m 102 ls []) := by
  unfold f_X11_row_j102 at h
  refine lv_iinc (v := x1 + 1) (lv' := [(1, .int (x1 + 1)), (0, .ref (g.2.2 (101)))]) X.1 X.2.1 (dk T_X11_row 53 rfl) hl (k := 1) rfl (icx ic_1) (Nat.le_of_ble_eq_true rfl) rfl (fun ls hl => ?_)
  refine lv_aload_n X.1 X.2.1 (dk T_X11_row 54 rfl) rfl (lv_at hl 1 rfl) ?_
  refine lv_dup X.1 X.2.1 (dk T_X11_row 55 rfl) rfl ?_
  refine gg X Y fl_X11_317 rfl rfl (dk T_X11_row 56 rfl) ?_
  refine lv_iconst (v := 1) X.1 X.2.1 (dk T_X11_row 57 rfl) ic_1 ?_
  refine lv_iadd X.1 X.2.1 (dk T_X11_row 58 rfl) ?_
  refine gp X Y fp_X11_317 rfl (nar_int _) (dk T_X11_row 59 rfl) (fun H locs Y => ?_)
  refine lv_goto (tgt := 36) X.1 X.2.1 (dk T_X11_row 60 rfl) rfl ?_
  exact KB (x1 + 1) (up σ 101 38 ((σ 101 38) + 1)) (Option.some.inj h).symm _ _ _ Y (lv_sub hl [1, 0] rfl)
def f_X11_row_j61 (x1 : Int32) (σ : St) : Option ((Int32 × St) ⊕ (Int32 × St)) :=
  if 4 ≤ x1 then f_X11_row_j102 x1 σ else if 4 ≤ (σ 101 43) then f_X11_row_j102 x1 σ else (f_X11_here σ).bind fun q8 => if q8 = 35 then f_X11_row_j102 x1 (up σ 101 45 ((σ 101 45) ||| ((1 : Int32) <<< (((4 * (σ 101 43)) + x1) &&& 31)))) else f_X11_row_j102 x1 σ
set_option maxHeartbeats 4000000 in
set_option maxRecDepth 100000 in
theorem w_X11_row_j61 (X : Cx g RX11 cX11_row 2 none p s m args meth c) (x1 : Int32) (σ : St) {w : (Int32 × St) ⊕ (Int32 × St)} (KB : ∀ (v0_ : Int32) (v1_ : St), w = .inl (v0_, v1_) → ∀ (H : Heap) (locs : List Loc) (ls : Array Slot), Wd g s v1_ H locs → lv_has ls 2 [(0, .ref (g.2.2 (101))), (1, .int (v0_))] → W p l e (rmm 1 20) s m args below meth c H locs 0 0 Q (F0 m 36 ls [])) (KX0 : ∀ (v0_ : Int32) (v1_ : St), w = .inr (v0_, v1_) → ∀ (H : Heap) (locs : List Loc) (ls : Array Slot), Wd g s v1_ H locs → lv_has ls 2 [(0, .ref (g.2.2 (101))), (1, .int (v0_))] → W p l e (rmm 1 20) s m args below meth c H locs 0 0 Q (F0 m 118 ls [])) {H : Heap} {locs : List Loc} {ls : Array Slot} (Y : Wd g s σ H locs) (hl : lv_has ls 2 [(0, .ref (g.2.2 (101))), (1, .int (x1))]) (h : f_X11_row_j61 x1 σ = some w) : W p l e (rmm 1 20) s m args below meth c H locs 0 0 Q (F0 m 61 ls []) := by
  unfold f_X11_row_j61 at h
  refine lv_iload_n X.1 X.2.1 (dk T_X11_row 29 rfl) rfl (lv_at hl 1 rfl) ?_
  refine lv_iconst (v := 4) X.1 X.2.1 (dk T_X11_row 30 rfl) ic_4 ?_
  refine lv_icmp_ge (tgt := 102) X.1 X.2.1 (dk T_X11_row 31 rfl) rfl (fun c6 => ?_) (fun c6 => ?_)
  · replace h := ipos c6 h
    exact w_X11_row_j102 X x1 σ KB KX0 Y (lv_sub hl [0, 1] rfl) h
  · replace h := ineg c6 h
    refine lv_aload_n X.1 X.2.1 (dk T_X11_row 32 rfl) rfl (lv_at hl 0 rfl) ?_
    refine gg X Y fl_X11_331 rfl rfl (dk T_X11_row 33 rfl) ?_
    refine lv_iconst (v := 4) X.1 X.2.1 (dk T_X11_row 34 rfl) ic_4 ?_
    refine lv_icmp_ge (tgt := 102) X.1 X.2.1 (dk T_X11_row 35 rfl) rfl (fun c7 => ?_) (fun c7 => ?_)
    · replace h := ipos c7 h
      exact w_X11_row_j102 X x1 σ KB KX0 Y (lv_sub hl [0, 1] rfl) h
    · replace h := ineg c7 h
      refine lv_aload_n X.1 X.2.1 (dk T_X11_row 36 rfl) rfl (lv_at hl 0 rfl) ?_
      obtain ⟨q8, hq8, h⟩ := bs h
      refine gvI (rest := []) X Y (c_X11_here σ hq8) cb_X11_324 rfl hl.1 rfl rfl (Nat.le_of_ble_eq_true rfl) ⟨Nat.le_of_ble_eq_true rfl, Nat.le_of_ble_eq_true rfl⟩ (dk T_X11_row 37 rfl) (fun H locs Y => ?_)
      refine lv_bipush (v := 35) X.1 X.2.1 (dk T_X11_row 38 rfl) bp_35 ?_
      refine lv_icmp_ne (tgt := 102) X.1 X.2.1 (dk T_X11_row 39 rfl) rfl (fun c9 => ?_) (fun c9 => ?_)
      · replace h := ineg c9 h
        exact w_X11_row_j102 X x1 σ KB KX0 Y (lv_sub hl [0, 1] rfl) h
      · replace h := ipos c9 h
        refine lv_aload_n X.1 X.2.1 (dk T_X11_row 40 rfl) rfl (lv_at hl 0 rfl) ?_
        refine lv_dup X.1 X.2.1 (dk T_X11_row 41 rfl) rfl ?_
        refine gg X Y fl_X11_334 rfl rfl (dk T_X11_row 42 rfl) ?_
        refine lv_iconst (v := 1) X.1 X.2.1 (dk T_X11_row 43 rfl) ic_1 ?_
        refine lv_iconst (v := 4) X.1 X.2.1 (dk T_X11_row 44 rfl) ic_4 ?_
        refine lv_aload_n X.1 X.2.1 (dk T_X11_row 45 rfl) rfl (lv_at hl 0 rfl) ?_
        refine gg X Y fl_X11_331 rfl rfl (dk T_X11_row 46 rfl) ?_
        refine lv_imul X.1 X.2.1 (dk T_X11_row 47 rfl) ?_
        refine lv_iload_n X.1 X.2.1 (dk T_X11_row 48 rfl) rfl (lv_at hl 1 rfl) ?_
        refine lv_iadd X.1 X.2.1 (dk T_X11_row 49 rfl) ?_
        refine lv_ishl X.1 X.2.1 (dk T_X11_row 50 rfl) ?_
        refine lv_ior X.1 X.2.1 (dk T_X11_row 51 rfl) ?_
        refine gp X Y fp_X11_334 rfl (nar_int _) (dk T_X11_row 52 rfl) (fun H locs Y => ?_)
        exact w_X11_row_j102 X x1 (up σ 101 45 ((σ 101 45) ||| ((1 : Int32) <<< (((4 * (σ 101 43)) + x1) &&& 31)))) KB KX0 Y (lv_sub hl [0, 1] rfl) h
def f_X11_row_l36 (z : Int32 × St) : Option ((Int32 × St) ⊕ (Int32 × St)) :=
  if (z.2 101 39) = 0 then some (.inr (z.1, z.2)) else (f_X11_here z.2).bind fun q4 => if q4 = 35 then f_X11_row_j61 z.1 z.2 else (f_X11_here z.2).bind fun q10 => if q10 = 46 then f_X11_row_j61 z.1 z.2 else some (.inr (z.1, z.2))
set_option maxHeartbeats 4000000 in
set_option maxRecDepth 100000 in
theorem w_X11_row_l36 (X : Cx g RX11 cX11_row 2 none p s m args meth c) (σ : St) {r : Int32 × St} (KX0 : ∀ (v0_ : Int32) (v1_ : St), r = (v0_, v1_) → ∀ (H : Heap) (locs : List Loc) (ls : Array Slot), Wd g s v1_ H locs → lv_has ls 2 [(0, .ref (g.2.2 (101))), (1, .int (v0_))] → W p l e (rmm 1 20) s m args below meth c H locs 0 0 Q (F0 m 118 ls [])) : ∀ (n : Nat) (z : Int32 × St) {H : Heap} {locs : List Loc} {ls : Array Slot}, Wd g s z.2 H locs → lv_has ls 2 [(0, .ref (g.2.2 (101))), (1, .int (z.1))] → lp (f_X11_row_l36) n z = some r → W p l e (rmm 1 20) s m args below meth c H locs 0 0 Q (F0 m 36 ls []) := by
  intro n
  induction n with
  | zero => intro z H locs ls Y hl h; cases h
  | succ n ih =>
    intro z H locs ls Y hl h
    obtain ⟨w, h, hw⟩ := lps h
    have KB : ∀ (v0_ : Int32) (v1_ : St), w = .inl (v0_, v1_) → ∀ (H : Heap) (locs : List Loc) (ls : Array Slot), Wd g s v1_ H locs → lv_has ls 2 [(0, .ref (g.2.2 (101))), (1, .int (v0_))] → W p l e (rmm 1 20) s m args below meth c H locs 0 0 Q (F0 m 36 ls []) := fun v0_ v1_ e H locs ls Y hl => ih (v0_, v1_) Y hl (lpl hw e)
    have KX0 := fun (v0_ : Int32) (v1_ : St) (e : w = .inr (v0_, v1_)) => KX0 v0_ v1_ (lpr hw e)
    unfold f_X11_row_l36 at h
    refine lv_aload_n X.1 X.2.1 (dk T_X11_row 18 rfl) rfl (lv_at hl 0 rfl) ?_
    refine gg X Y fl_X11_320 rfl rfl (dk T_X11_row 19 rfl) ?_
    refine lv_if_eq (tgt := 118) X.1 X.2.1 (dk T_X11_row 20 rfl) rfl (fun c3 => ?_) (fun c3 => ?_)
    · replace h := ipos c3 h
      exact KX0 z.1 z.2 (Option.some.inj h).symm _ _ _ Y (lv_sub hl [0, 1] rfl)
    · replace h := ineg c3 h
      refine lv_aload_n X.1 X.2.1 (dk T_X11_row 21 rfl) rfl (lv_at hl 0 rfl) ?_
      obtain ⟨q4, hq4, h⟩ := bs h
      refine gvI (rest := []) X Y (c_X11_here z.2 hq4) cb_X11_324 rfl hl.1 rfl rfl (Nat.le_of_ble_eq_true rfl) ⟨Nat.le_of_ble_eq_true rfl, Nat.le_of_ble_eq_true rfl⟩ (dk T_X11_row 22 rfl) (fun H locs Y => ?_)
      refine lv_bipush (v := 35) X.1 X.2.1 (dk T_X11_row 23 rfl) bp_35 ?_
      refine lv_icmp_eq (tgt := 61) X.1 X.2.1 (dk T_X11_row 24 rfl) rfl (fun c5 => ?_) (fun c5 => ?_)
      · replace h := ipos c5 h
        exact w_X11_row_j61 X z.1 z.2 KB KX0 Y (lv_sub hl [0, 1] rfl) h
      · replace h := ineg c5 h
        refine lv_aload_n X.1 X.2.1 (dk T_X11_row 25 rfl) rfl (lv_at hl 0 rfl) ?_
        obtain ⟨q10, hq10, h⟩ := bs h
        refine gvI (rest := []) X Y (c_X11_here z.2 hq10) cb_X11_324 rfl hl.1 rfl rfl (Nat.le_of_ble_eq_true rfl) ⟨Nat.le_of_ble_eq_true rfl, Nat.le_of_ble_eq_true rfl⟩ (dk T_X11_row 26 rfl) (fun H locs Y => ?_)
        refine lv_bipush (v := 46) X.1 X.2.1 (dk T_X11_row 27 rfl) bp_46 ?_
        refine lv_icmp_ne (tgt := 118) X.1 X.2.1 (dk T_X11_row 28 rfl) rfl (fun c11 => ?_) (fun c11 => ?_)
        · replace h := ineg c11 h
          exact KX0 z.1 z.2 (Option.some.inj h).symm _ _ _ Y (lv_sub hl [0, 1] rfl)
        · replace h := ipos c11 h
          exact w_X11_row_j61 X z.1 z.2 KB KX0 Y (lv_sub hl [0, 1] rfl) h
def f_X11_row_j159 (x1 : Int32) (s0 : Int32) (σ : St) : Option (St) :=
  chk (okz s0) (some (up (up (up σ 101 46 s0) 101 44 x1) 101 43 ((up (up σ 101 46 s0) 101 44 x1 101 43) + 1)))
set_option maxHeartbeats 4000000 in
set_option maxRecDepth 100000 in
theorem w_X11_row_j159 (X : Cx g RX11 cX11_row 2 none p s m args meth c) (x1 : Int32) (s0 : Int32) (σ : St) {w : St} (KR : ∀ (H : Heap) (locs : List Loc) (ls : Array Slot) (pc : Nat), Wd g s w H locs → decode cX11_row pc = .ok (.return_, 1) → W p l e (rmm 1 20) s m args below meth c H locs 0 0 Q (F0 m pc ls [])) {H : Heap} {locs : List Loc} {ls : Array Slot} (Y : Wd g s σ H locs) (hl : lv_has ls 2 [(0, .ref (g.2.2 (101))), (1, .int (x1))]) (h : f_X11_row_j159 x1 s0 σ = some w) : W p l e (rmm 1 20) s m args below meth c H locs 0 0 Q (F0 m 159 ls [.int (s0), .ref (g.2.2 (101))]) := by
  unfold f_X11_row_j159 at h
  obtain ⟨g14, h⟩ := gd h
  refine gp X Y fp_X11_337 rfl (nar_z g14) (dk T_X11_row 82 rfl) (fun H locs Y => ?_)
  refine lv_aload_n X.1 X.2.1 (dk T_X11_row 83 rfl) rfl (lv_at hl 0 rfl) ?_
  refine lv_iload_n X.1 X.2.1 (dk T_X11_row 84 rfl) rfl (lv_at hl 1 rfl) ?_
  refine gp X Y fp_X11_340 rfl (nar_int _) (dk T_X11_row 85 rfl) (fun H locs Y => ?_)
  refine lv_aload_n X.1 X.2.1 (dk T_X11_row 86 rfl) rfl (lv_at hl 0 rfl) ?_
  refine lv_dup X.1 X.2.1 (dk T_X11_row 87 rfl) rfl ?_
  refine gg X Y fl_X11_331 rfl rfl (dk T_X11_row 88 rfl) ?_
  refine lv_iconst (v := 1) X.1 X.2.1 (dk T_X11_row 89 rfl) ic_1 ?_
  refine lv_iadd X.1 X.2.1 (dk T_X11_row 90 rfl) ?_
  refine gp X Y fp_X11_331 rfl (nar_int _) (dk T_X11_row 91 rfl) (fun H locs Y => ?_)
  obtain rfl := Option.some.inj h
  exact KR _ _ _ _ Y (dk T_X11_row 92 rfl)
def f_X11_row_j154 (x1 : Int32) (σ : St) : Option (St) :=
  f_X11_row_j159 x1 1 σ
set_option maxHeartbeats 4000000 in
set_option maxRecDepth 100000 in
theorem w_X11_row_j154 (X : Cx g RX11 cX11_row 2 none p s m args meth c) (x1 : Int32) (σ : St) {w : St} (KR : ∀ (H : Heap) (locs : List Loc) (ls : Array Slot) (pc : Nat), Wd g s w H locs → decode cX11_row pc = .ok (.return_, 1) → W p l e (rmm 1 20) s m args below meth c H locs 0 0 Q (F0 m pc ls [])) {H : Heap} {locs : List Loc} {ls : Array Slot} (Y : Wd g s σ H locs) (hl : lv_has ls 2 [(0, .ref (g.2.2 (101))), (1, .int (x1))]) (h : f_X11_row_j154 x1 σ = some w) : W p l e (rmm 1 20) s m args below meth c H locs 0 0 Q (F0 m 154 ls [.ref (g.2.2 (101))]) := by
  unfold f_X11_row_j154 at h
  refine lv_iconst (v := 1) X.1 X.2.1 (dk T_X11_row 79 rfl) ic_1 ?_
  refine lv_goto (tgt := 159) X.1 X.2.1 (dk T_X11_row 80 rfl) rfl ?_
  exact w_X11_row_j159 X x1 1 σ KR Y (lv_sub hl [0, 1] rfl) h
def f_X11_row_j141 (x1 : Int32) (σ : St) : Option (St) :=
  if 4 < x1 then f_X11_row_j154 x1 σ else if (σ 101 43) ≤ 3 then f_X11_row_j159 x1 0 σ else f_X11_row_j154 x1 σ
set_option maxHeartbeats 4000000 in
set_option maxRecDepth 100000 in
theorem w_X11_row_j141 (X : Cx g RX11 cX11_row 2 none p s m args meth c) (x1 : Int32) (σ : St) {w : St} (KR : ∀ (H : Heap) (locs : List Loc) (ls : Array Slot) (pc : Nat), Wd g s w H locs → decode cX11_row pc = .ok (.return_, 1) → W p l e (rmm 1 20) s m args below meth c H locs 0 0 Q (F0 m pc ls [])) {H : Heap} {locs : List Loc} {ls : Array Slot} (Y : Wd g s σ H locs) (hl : lv_has ls 2 [(0, .ref (g.2.2 (101))), (1, .int (x1))]) (h : f_X11_row_j141 x1 σ = some w) : W p l e (rmm 1 20) s m args below meth c H locs 0 0 Q (F0 m 141 ls [.ref (g.2.2 (101))]) := by
  unfold f_X11_row_j141 at h
  refine lv_iload_n X.1 X.2.1 (dk T_X11_row 72 rfl) rfl (lv_at hl 1 rfl) ?_
  refine lv_iconst (v := 4) X.1 X.2.1 (dk T_X11_row 73 rfl) ic_4 ?_
  refine lv_icmp_gt (tgt := 154) X.1 X.2.1 (dk T_X11_row 74 rfl) rfl (fun c16 => ?_) (fun c16 => ?_)
  · replace h := ipos c16 h
    exact w_X11_row_j154 X x1 σ KR Y (lv_sub hl [0, 1] rfl) h
  · replace h := ineg c16 h
    refine lv_aload_n X.1 X.2.1 (dk T_X11_row 75 rfl) rfl (lv_at hl 0 rfl) ?_
    refine gg X Y fl_X11_331 rfl rfl (dk T_X11_row 76 rfl) ?_
    refine lv_iconst (v := 3) X.1 X.2.1 (dk T_X11_row 77 rfl) ic_3 ?_
    refine lv_icmp_le (tgt := 158) X.1 X.2.1 (dk T_X11_row 78 rfl) rfl (fun c17 => ?_) (fun c17 => ?_)
    · replace h := ipos c17 h
      refine lv_iconst (v := 0) X.1 X.2.1 (dk T_X11_row 81 rfl) ic_0 ?_
      exact w_X11_row_j159 X x1 0 σ KR Y (lv_sub hl [0, 1] rfl) h
    · replace h := ineg c17 h
      exact w_X11_row_j154 X x1 σ KR Y (lv_sub hl [0, 1] rfl) h
def f_X11_row_j118 (x1 : Int32) (σ : St) : Option (St) :=
  if (σ 101 46) = 0 then if (σ 101 43) ≤ 0 then f_X11_row_j141 x1 σ else if x1 = (σ 101 44) then f_X11_row_j141 x1 σ else f_X11_row_j154 x1 σ else f_X11_row_j154 x1 σ
set_option maxHeartbeats 4000000 in
set_option maxRecDepth 100000 in
theorem w_X11_row_j118 (X : Cx g RX11 cX11_row 2 none p s m args meth c) (x1 : Int32) (σ : St) {w : St} (KR : ∀ (H : Heap) (locs : List Loc) (ls : Array Slot) (pc : Nat), Wd g s w H locs → decode cX11_row pc = .ok (.return_, 1) → W p l e (rmm 1 20) s m args below meth c H locs 0 0 Q (F0 m pc ls [])) {H : Heap} {locs : List Loc} {ls : Array Slot} (Y : Wd g s σ H locs) (hl : lv_has ls 2 [(0, .ref (g.2.2 (101))), (1, .int (x1))]) (h : f_X11_row_j118 x1 σ = some w) : W p l e (rmm 1 20) s m args below meth c H locs 0 0 Q (F0 m 118 ls []) := by
  unfold f_X11_row_j118 at h
  refine lv_aload_n X.1 X.2.1 (dk T_X11_row 61 rfl) rfl (lv_at hl 0 rfl) ?_
  refine lv_aload_n X.1 X.2.1 (dk T_X11_row 62 rfl) rfl (lv_at hl 0 rfl) ?_
  refine gg X Y fl_X11_337 rfl rfl (dk T_X11_row 63 rfl) ?_
  refine lv_if_ne (tgt := 154) X.1 X.2.1 (dk T_X11_row 64 rfl) rfl (fun c13 => ?_) (fun c13 => ?_)
  · replace h := ineg c13 h
    exact w_X11_row_j154 X x1 σ KR Y (lv_sub hl [0, 1] rfl) h
  · replace h := ipos c13 h
    refine lv_aload_n X.1 X.2.1 (dk T_X11_row 65 rfl) rfl (lv_at hl 0 rfl) ?_
    refine gg X Y fl_X11_331 rfl rfl (dk T_X11_row 66 rfl) ?_
    refine lv_if_le (tgt := 141) X.1 X.2.1 (dk T_X11_row 67 rfl) rfl (fun c15 => ?_) (fun c15 => ?_)
    · replace h := ipos c15 h
      exact w_X11_row_j141 X x1 σ KR Y (lv_sub hl [0, 1] rfl) h
    · replace h := ineg c15 h
      refine lv_iload_n X.1 X.2.1 (dk T_X11_row 68 rfl) rfl (lv_at hl 1 rfl) ?_
      refine lv_aload_n X.1 X.2.1 (dk T_X11_row 69 rfl) rfl (lv_at hl 0 rfl) ?_
      refine gg X Y fl_X11_340 rfl rfl (dk T_X11_row 70 rfl) ?_
      refine lv_icmp_ne (tgt := 154) X.1 X.2.1 (dk T_X11_row 71 rfl) rfl (fun c18 => ?_) (fun c18 => ?_)
      · replace h := ineg c18 h
        exact w_X11_row_j154 X x1 σ KR Y (lv_sub hl [0, 1] rfl) h
      · replace h := ipos c18 h
        exact w_X11_row_j141 X x1 σ KR Y (lv_sub hl [0, 1] rfl) h
def f_X11_row_j33 (x1 : Int32) (s0 : Int32) (σ : St) : Option (St) :=
  chk (okz s0) ((lp (f_X11_row_l36) FU (x1, up σ 101 39 s0)).bind fun q12 => f_X11_row_j118 q12.1 q12.2)
set_option maxHeartbeats 4000000 in
set_option maxRecDepth 100000 in
theorem w_X11_row_j33 (X : Cx g RX11 cX11_row 2 none p s m args meth c) (x1 : Int32) (s0 : Int32) (σ : St) {w : St} (KR : ∀ (H : Heap) (locs : List Loc) (ls : Array Slot) (pc : Nat), Wd g s w H locs → decode cX11_row pc = .ok (.return_, 1) → W p l e (rmm 1 20) s m args below meth c H locs 0 0 Q (F0 m pc ls [])) {H : Heap} {locs : List Loc} {ls : Array Slot} (Y : Wd g s σ H locs) (hl : lv_has ls 2 [(0, .ref (g.2.2 (101))), (1, .int (x1))]) (h : f_X11_row_j33 x1 s0 σ = some w) : W p l e (rmm 1 20) s m args below meth c H locs 0 0 Q (F0 m 33 ls [.int (s0), .ref (g.2.2 (101))]) := by
  unfold f_X11_row_j33 at h
  obtain ⟨g2, h⟩ := gd h
  refine gp X Y fp_X11_320 rfl (nar_z g2) (dk T_X11_row 17 rfl) (fun H locs Y => ?_)
  obtain ⟨q12, hq12, h⟩ := bs h
  refine w_X11_row_l36 X σ (fun v0_ v1_ e H locs ls Y hl => ?_) FU (x1, up σ 101 39 s0) Y (lv_sub hl [0, 1] rfl) hq12
  · obtain ⟨rfl, rfl⟩ : v0_ = q12.1 ∧ v1_ = q12.2 := ⟨by rw [e], by rw [e]⟩
    exact w_X11_row_j118 X q12.1 q12.2 KR Y (lv_sub hl [0, 1] rfl) h
def f_X11_row_j32 (x1 : Int32) (σ : St) : Option (St) :=
  f_X11_row_j33 x1 0 σ
set_option maxHeartbeats 4000000 in
set_option maxRecDepth 100000 in
theorem w_X11_row_j32 (X : Cx g RX11 cX11_row 2 none p s m args meth c) (x1 : Int32) (σ : St) {w : St} (KR : ∀ (H : Heap) (locs : List Loc) (ls : Array Slot) (pc : Nat), Wd g s w H locs → decode cX11_row pc = .ok (.return_, 1) → W p l e (rmm 1 20) s m args below meth c H locs 0 0 Q (F0 m pc ls [])) {H : Heap} {locs : List Loc} {ls : Array Slot} (Y : Wd g s σ H locs) (hl : lv_has ls 2 [(0, .ref (g.2.2 (101))), (1, .int (x1))]) (h : f_X11_row_j32 x1 σ = some w) : W p l e (rmm 1 20) s m args below meth c H locs 0 0 Q (F0 m 32 ls [.ref (g.2.2 (101))]) := by
  unfold f_X11_row_j32 at h
  refine lv_iconst (v := 0) X.1 X.2.1 (dk T_X11_row 16 rfl) ic_0 ?_
  exact w_X11_row_j33 X x1 0 σ KR Y (lv_sub hl [0, 1] rfl) h
def f_X11_row_j28 (x1 : Int32) (σ : St) : Option (St) :=
  f_X11_row_j33 x1 1 σ
set_option maxHeartbeats 4000000 in
set_option maxRecDepth 100000 in
theorem w_X11_row_j28 (X : Cx g RX11 cX11_row 2 none p s m args meth c) (x1 : Int32) (σ : St) {w : St} (KR : ∀ (H : Heap) (locs : List Loc) (ls : Array Slot) (pc : Nat), Wd g s w H locs → decode cX11_row pc = .ok (.return_, 1) → W p l e (rmm 1 20) s m args below meth c H locs 0 0 Q (F0 m pc ls [])) {H : Heap} {locs : List Loc} {ls : Array Slot} (Y : Wd g s σ H locs) (hl : lv_has ls 2 [(0, .ref (g.2.2 (101))), (1, .int (x1))]) (h : f_X11_row_j28 x1 σ = some w) : W p l e (rmm 1 20) s m args below meth c H locs 0 0 Q (F0 m 28 ls [.ref (g.2.2 (101))]) := by
  unfold f_X11_row_j28 at h
  refine lv_iconst (v := 1) X.1 X.2.1 (dk T_X11_row 14 rfl) ic_1 ?_
  refine lv_goto (tgt := 33) X.1 X.2.1 (dk T_X11_row 15 rfl) rfl ?_
  exact w_X11_row_j33 X x1 1 σ KR Y (lv_sub hl [0, 1] rfl) h
def f_X11_row_0 (σ : St) : Option (St) :=
  if (σ 101 39) = 0 then f_X11_row_j32 0 σ else (f_X11_here σ).bind fun q19 => if q19 = 35 then f_X11_row_j28 0 σ else (f_X11_here σ).bind fun q21 => if q21 = 46 then f_X11_row_j28 0 σ else f_X11_row_j32 0 σ
set_option maxHeartbeats 4000000 in
set_option maxRecDepth 100000 in
theorem w_X11_row_0 (X : Cx g RX11 cX11_row 2 none p s m args meth c) (σ : St) {w : St} (KR : ∀ (H : Heap) (locs : List Loc) (ls : Array Slot) (pc : Nat), Wd g s w H locs → decode cX11_row pc = .ok (.return_, 1) → W p l e (rmm 1 20) s m args below meth c H locs 0 0 Q (F0 m pc ls [])) {H : Heap} {locs : List Loc} {ls : Array Slot} (Y : Wd g s σ H locs) (hl : lv_has ls 2 [(0, .ref (g.2.2 (101)))]) (h : f_X11_row_0 σ = some w) : W p l e (rmm 1 20) s m args below meth c H locs 0 0 Q (F0 m 0 ls []) := by
  unfold f_X11_row_0 at h
  refine lv_iconst (v := 0) X.1 X.2.1 (dk T_X11_row 0 rfl) ic_0 ?_
  refine lv_istore_n (lv' := [(1, .int (0)), (0, .ref (g.2.2 (101)))]) X.1 X.2.1 (dk T_X11_row 1 rfl) rfl hl (Nat.le_of_ble_eq_true rfl) rfl (fun ls hl => ?_)
  refine lv_aload_n X.1 X.2.1 (dk T_X11_row 2 rfl) rfl (lv_at hl 1 rfl) ?_
  refine lv_aload_n X.1 X.2.1 (dk T_X11_row 3 rfl) rfl (lv_at hl 1 rfl) ?_
  refine gg X Y fl_X11_320 rfl rfl (dk T_X11_row 4 rfl) ?_
  refine lv_if_eq (tgt := 32) X.1 X.2.1 (dk T_X11_row 5 rfl) rfl (fun c1 => ?_) (fun c1 => ?_)
  · replace h := ipos c1 h
    exact w_X11_row_j32 X 0 σ KR Y (lv_sub hl [1, 0] rfl) h
  · replace h := ineg c1 h
    refine lv_aload_n X.1 X.2.1 (dk T_X11_row 6 rfl) rfl (lv_at hl 1 rfl) ?_
    obtain ⟨q19, hq19, h⟩ := bs h
    refine gvI (rest := [.ref (g.2.2 (101))]) X Y (c_X11_here σ hq19) cb_X11_324 rfl hl.1 rfl rfl (Nat.le_of_ble_eq_true rfl) ⟨Nat.le_of_ble_eq_true rfl, Nat.le_of_ble_eq_true rfl⟩ (dk T_X11_row 7 rfl) (fun H locs Y => ?_)
    refine lv_bipush (v := 35) X.1 X.2.1 (dk T_X11_row 8 rfl) bp_35 ?_
    refine lv_icmp_eq (tgt := 28) X.1 X.2.1 (dk T_X11_row 9 rfl) rfl (fun c20 => ?_) (fun c20 => ?_)
    · replace h := ipos c20 h
      exact w_X11_row_j28 X 0 σ KR Y (lv_sub hl [1, 0] rfl) h
    · replace h := ineg c20 h
      refine lv_aload_n X.1 X.2.1 (dk T_X11_row 10 rfl) rfl (lv_at hl 1 rfl) ?_
      obtain ⟨q21, hq21, h⟩ := bs h
      refine gvI (rest := [.ref (g.2.2 (101))]) X Y (c_X11_here σ hq21) cb_X11_324 rfl hl.1 rfl rfl (Nat.le_of_ble_eq_true rfl) ⟨Nat.le_of_ble_eq_true rfl, Nat.le_of_ble_eq_true rfl⟩ (dk T_X11_row 11 rfl) (fun H locs Y => ?_)
      refine lv_bipush (v := 46) X.1 X.2.1 (dk T_X11_row 12 rfl) bp_46 ?_
      refine lv_icmp_ne (tgt := 32) X.1 X.2.1 (dk T_X11_row 13 rfl) rfl (fun c22 => ?_) (fun c22 => ?_)
      · replace h := ineg c22 h
        exact w_X11_row_j32 X 0 σ KR Y (lv_sub hl [1, 0] rfl) h
      · replace h := ipos c22 h
        exact w_X11_row_j28 X 0 σ KR Y (lv_sub hl [1, 0] rfl) h
def f_X11_row (σ : St) : Option (St) := f_X11_row_0 σ
set_option maxHeartbeats 4000000 in
set_option maxRecDepth 100000 in
theorem c_X11_row {l : Launch} {g : Geo} (σ : St) {w : St} (h : f_X11_row σ = some w) : CtV l yX11_row cX11_row 2 none (rmm 1 20) g [.ref (g.2.2 (101))] σ w := enV (by decide) rfl (Nat.le_of_ble_eq_true rfl) (fun p e s m args below meth c Q X Y ls hl KR => w_X11_row_0 X σ KR Y hl h)
def I_X11_readsItem : List (Nat × Instr × Nat) := [(0, .aload_n 0, 1), (1, .aload_n 0, 1), (2, .invokevirtual 324, 3), (5, .putfield 343, 3), (8, .aload_n 0, 1), (9, .getfield 343, 3), (12, .bipush 115, 2), (14, .if_icmp .ne 102, 3), (17, .aload_n 0, 1), (18, .dup, 1), (19, .getfield 317, 3), (22, .iconst 1, 1), (23, .iadd, 1), (24, .putfield 317, 3), (27, .aload_n 0, 1), (28, .getfield 68, 3), (31, .iconst 0, 1), (32, .aload_n 0, 1), (33, .invokevirtual 346, 3), (36, .iastore, 1), (37, .aload_n 0, 1), (38, .bipush 120, 2), (40, .invokevirtual 349, 3), (43, .pop, 1), (44, .aload_n 0, 1), (45, .getfield 68, 3), (48, .iconst 1, 1), (49, .aload_n 0, 1), (50, .invokevirtual 346, 3), (53, .iastore, 1), (54, .aload_n 0, 1), (55, .aload_n 0, 1), (56, .invokevirtual 324, 3), (59, .bipush 45, 2), (61, .if_icmp .ne 7, 3), (64, .iconst 1, 1), (65, .goto 17, 3), (68, .aload_n 0, 1), (69, .invokevirtual 324, 3), (72, .bipush 124, 2), (74, .if_icmp .ne 7, 3), (77, .iconst 2, 1), (78, .goto 4, 3), (81, .iconst 0, 1), (82, .putfield 353, 3), (85, .aload_n 0, 1), (86, .dup, 1), (87, .getfield 317, 3), (90, .aload_n 0, 1), (91, .getfield 320, 3), (94, .ifCond .eq 14, 3), (97, .aload_n 0, 1), (98, .getfield 353, 3), (101, .ifCond .le 7, 3), (104, .iconst 1, 1), (105, .goto 4, 3), (108, .iconst 0, 1), (109, .iadd, 1), (110, .putfield 317, 3), (113, .goto 170, 3), (116, .aload_n 0, 1), (117, .getfield 343, 3), (120, .bipush 112, 2), (122, .if_icmp .ne 107, 3), (125, .aload_n 0, 1), (126, .dup, 1), (127, .getfield 317, 3), (130, .iconst 1, 1), (131, .iadd, 1), (132, .putfield 317, 3), (135, .aload_n 0, 1), (136, .iconst 0, 1), (137, .putfield 331, 3), (140, .aload_n 0, 1), (141, .iconst 0, 1), (142, .putfield 340, 3), (145, .aload_n 0, 1), (146, .iconst 0, 1), (147, .putfield 334, 3), (150, .aload_n 0, 1), (151, .iconst 0, 1), (152, .putfield 337, 3), (155, .aload_n 0, 1), (156, .invokevirtual 356, 3), (159, .aload_n 0, 1), (160, .getfield 320, 3), (163, .ifCond .eq 29, 3), (166, .aload_n 0, 1), (167, .invokevirtual 324, 3), (170, .bipush 47, 2), (172, .if_icmp .ne 20, 3), (175, .aload_n 0, 1), (176, .dup, 1), (177, .getfield 317, 3), (180, .iconst 1, 1), (181, .iadd, 1), (182, .putfield 317, 3), (185, .aload_n 0, 1), (186, .invokevirtual 356, 3), (189, .goto (-30), 3), (192, .aload_n 0, 1), (193, .bipush 58, 2), (195, .invokevirtual 349, 3), (198, .pop, 1), (199, .aload_n 0, 1), (200, .getfield 68, 3), (203, .iconst 0, 1), (204, .aload_n 0, 1), (205, .invokevirtual 328, 3), (208, .iastore, 1), (209, .aload_n 0, 1), (210, .bipush 42, 2), (212, .invokevirtual 349, 3), (215, .pop, 1), (216, .aload_n 0, 1), (217, .getfield 68, 3), (220, .iconst 1, 1), (221, .aload_n 0, 1), (222, .invokevirtual 346, 3), (225, .iastore, 1), (226, .goto 57, 3), (229, .aload_n 0, 1), (230, .getfield 343, 3), (233, .bipush 100, 2), (235, .if_icmp .ne 43, 3), (238, .aload_n 0, 1), (239, .dup, 1), (240, .getfield 317, 3), (243, .iconst 1, 1), (244, .iadd, 1), (245, .putfield 317, 3), (248, .aload_n 0, 1), (249, .getfield 68, 3), (252, .iconst 0, 1), (253, .aload_n 0, 1), (254, .invokevirtual 328, 3), (257, .iastore, 1), (258, .aload_n 0, 1), (259, .bipush 58, 2), (261, .invokevirtual 349, 3), (264, .pop, 1), (265, .aload_n 0, 1), (266, .getfield 68, 3), (269, .iconst 1, 1), (270, .aload_n 0, 1), (271, .invokevirtual 346, 3), (274, .iastore, 1), (275, .goto 8, 3), (278, .aload_n 0, 1), (279, .iconst 0, 1), (280, .putfield 320, 3), (283, .return_, 1)]
set_option maxRecDepth 100000 in
theorem T_X11_readsItem : ∀ q ∈ I_X11_readsItem, decode cX11_readsItem q.1 = .ok (q.2.1, q.2.2) := by decide +kernel
def f_X11_readsItem_l159 (z : St) : Option ((St) ⊕ (St)) :=
  if (z 101 39) = 0 then some (.inr z) else (f_X11_here z).bind fun q12 => if q12 = 47 then (f_X11_row (up z 101 38 ((z 101 38) + 1))).bind fun q14 => some (.inl q14) else some (.inr z)
set_option maxHeartbeats 4000000 in
set_option maxRecDepth 100000 in
theorem w_X11_readsItem_l159 (X : Cx g RX11 cX11_readsItem 1 none p s m args meth c) (σ : St) {r : St} (KX0 : ∀ (v : St), r = v → ∀ (H : Heap) (locs : List Loc) (ls : Array Slot), Wd g s v H locs → lv_has ls 1 [(0, .ref (g.2.2 (101)))] → W p l e (rmm 3 63) s m args below meth c H locs 0 0 Q (F0 m 192 ls [])) : ∀ (n : Nat) (z : St) {H : Heap} {locs : List Loc} {ls : Array Slot}, Wd g s z H locs → lv_has ls 1 [(0, .ref (g.2.2 (101)))] → lp (f_X11_readsItem_l159) n z = some r → W p l e (rmm 3 63) s m args below meth c H locs 0 0 Q (F0 m 159 ls []) := by
  intro n
  induction n with
  | zero => intro z H locs ls Y hl h; cases h
  | succ n ih =>
    intro z H locs ls Y hl h
    obtain ⟨w, h, hw⟩ := lps h
    have KB : ∀ (v : St), w = .inl v → ∀ (H : Heap) (locs : List Loc) (ls : Array Slot), Wd g s v H locs → lv_has ls 1 [(0, .ref (g.2.2 (101)))] → W p l e (rmm 3 63) s m args below meth c H locs 0 0 Q (F0 m 159 ls []) := fun v e H locs ls Y hl => ih v Y hl (lpl hw e)
    have KX0 := fun (v : St) (e : w = .inr v) => KX0 v (lpr hw e)
    unfold f_X11_readsItem_l159 at h
    refine lv_aload_n X.1 X.2.1 (dk T_X11_readsItem 84 rfl) rfl (lv_at hl 0 rfl) ?_
    refine gg X Y fl_X11_320 rfl rfl (dk T_X11_readsItem 85 rfl) ?_
    refine lv_if_eq (tgt := 192) X.1 X.2.1 (dk T_X11_readsItem 86 rfl) rfl (fun c11 => ?_) (fun c11 => ?_)
    · replace h := ipos c11 h
      exact KX0 z (Option.some.inj h).symm _ _ _ Y (lv_sub hl [0] rfl)
    · replace h := ineg c11 h
      refine lv_aload_n X.1 X.2.1 (dk T_X11_readsItem 87 rfl) rfl (lv_at hl 0 rfl) ?_
      obtain ⟨q12, hq12, h⟩ := bs h
      refine gvI (rest := []) X Y (c_X11_here z hq12) cb_X11_324 rfl hl.1 rfl rfl (Nat.le_of_ble_eq_true rfl) ⟨Nat.le_of_ble_eq_true rfl, Nat.le_of_ble_eq_true rfl⟩ (dk T_X11_readsItem 88 rfl) (fun H locs Y => ?_)
      refine lv_bipush (v := 47) X.1 X.2.1 (dk T_X11_readsItem 89 rfl) bp_47 ?_
      refine lv_icmp_ne (tgt := 192) X.1 X.2.1 (dk T_X11_readsItem 90 rfl) rfl (fun c13 => ?_) (fun c13 => ?_)
      · replace h := ineg c13 h
        exact KX0 z (Option.some.inj h).symm _ _ _ Y (lv_sub hl [0] rfl)
      · replace h := ipos c13 h
        refine lv_aload_n X.1 X.2.1 (dk T_X11_readsItem 91 rfl) rfl (lv_at hl 0 rfl) ?_
        refine lv_dup X.1 X.2.1 (dk T_X11_readsItem 92 rfl) rfl ?_
        refine gg X Y fl_X11_317 rfl rfl (dk T_X11_readsItem 93 rfl) ?_
        refine lv_iconst (v := 1) X.1 X.2.1 (dk T_X11_readsItem 94 rfl) ic_1 ?_
        refine lv_iadd X.1 X.2.1 (dk T_X11_readsItem 95 rfl) ?_
        refine gp X Y fp_X11_317 rfl (nar_int _) (dk T_X11_readsItem 96 rfl) (fun H locs Y => ?_)
        refine lv_aload_n X.1 X.2.1 (dk T_X11_readsItem 97 rfl) rfl (lv_at hl 0 rfl) ?_
        obtain ⟨q14, hq14, h⟩ := bs h
        refine gvV (rest := []) X Y (c_X11_row (up z 101 38 ((z 101 38) + 1)) hq14) cb_X11_356 rfl hl.1 rfl rfl (Nat.le_of_ble_eq_true rfl) ⟨Nat.le_of_ble_eq_true rfl, Nat.le_of_ble_eq_true rfl⟩ (dk T_X11_readsItem 98 rfl) (fun H locs Y => ?_)
        refine lv_goto (tgt := 159) X.1 X.2.1 (dk T_X11_readsItem 99 rfl) rfl ?_
        exact KB q14 (Option.some.inj h).symm _ _ _ Y (lv_sub hl [0] rfl)
def f_X11_readsItem_j192 (σ : St) : Option (St) :=
  (f_X11_must 58 σ).bind fun q16 => (f_X11_digit q16.2).bind fun q17 => chk (inb 0 2) ((f_X11_must 42 (up q17.2 121 (0 : Int32).toNatClampNeg q17.1)).bind fun q19 => (f_X11_number q19.2).bind fun q20 => chk (inb 1 2) (some (up q20.2 121 (1 : Int32).toNatClampNeg q20.1)))
set_option maxHeartbeats 4000000 in
set_option maxRecDepth 100000 in
theorem w_X11_readsItem_j192 (X : Cx g RX11 cX11_readsItem 1 none p s m args meth c) (σ : St) {w : St} (KR : ∀ (H : Heap) (locs : List Loc) (ls : Array Slot) (pc : Nat), Wd g s w H locs → decode cX11_readsItem pc = .ok (.return_, 1) → W p l e (rmm 3 63) s m args below meth c H locs 0 0 Q (F0 m pc ls [])) {H : Heap} {locs : List Loc} {ls : Array Slot} (Y : Wd g s σ H locs) (hl : lv_has ls 1 [(0, .ref (g.2.2 (101)))]) (h : f_X11_readsItem_j192 σ = some w) : W p l e (rmm 3 63) s m args below meth c H locs 0 0 Q (F0 m 192 ls []) := by
  unfold f_X11_readsItem_j192 at h
  refine lv_aload_n X.1 X.2.1 (dk T_X11_readsItem 100 rfl) rfl (lv_at hl 0 rfl) ?_
  refine lv_bipush (v := 58) X.1 X.2.1 (dk T_X11_readsItem 101 rfl) bp_58 ?_
  obtain ⟨q16, hq16, h⟩ := bs h
  refine gvI (rest := []) X Y (c_X11_must 58 σ hq16) cb_X11_349 rfl hl.1 rfl rfl (Nat.le_of_ble_eq_true rfl) ⟨Nat.le_of_ble_eq_true rfl, Nat.le_of_ble_eq_true rfl⟩ (dk T_X11_readsItem 102 rfl) (fun H locs Y => ?_)
  refine lv_pop X.1 X.2.1 (dk T_X11_readsItem 103 rfl) rfl ?_
  refine lv_aload_n X.1 X.2.1 (dk T_X11_readsItem 104 rfl) rfl (lv_at hl 0 rfl) ?_
  refine gg X Y fl_X11_68 rfl rfl (dk T_X11_readsItem 105 rfl) ?_
  refine lv_iconst (v := 0) X.1 X.2.1 (dk T_X11_readsItem 106 rfl) ic_0 ?_
  refine lv_aload_n X.1 X.2.1 (dk T_X11_readsItem 107 rfl) rfl (lv_at hl 0 rfl) ?_
  obtain ⟨q17, hq17, h⟩ := bs h
  refine gvI (rest := [.int (0), .ref (g.2.2 (121))]) X Y (c_X11_digit q16.2 hq17) cb_X11_328 rfl hl.1 rfl rfl (Nat.le_of_ble_eq_true rfl) ⟨Nat.le_of_ble_eq_true rfl, Nat.le_of_ble_eq_true rfl⟩ (dk T_X11_readsItem 108 rfl) (fun H locs Y => ?_)
  obtain ⟨g18, h⟩ := gd h
  refine gis X Y rfl (inp g18) (dk T_X11_readsItem 109 rfl) (fun H locs Y => ?_)
  refine lv_aload_n X.1 X.2.1 (dk T_X11_readsItem 110 rfl) rfl (lv_at hl 0 rfl) ?_
  refine lv_bipush (v := 42) X.1 X.2.1 (dk T_X11_readsItem 111 rfl) bp_42 ?_
  obtain ⟨q19, hq19, h⟩ := bs h
  refine gvI (rest := []) X Y (c_X11_must 42 (up q17.2 121 (0 : Int32).toNatClampNeg q17.1) hq19) cb_X11_349 rfl hl.1 rfl rfl (Nat.le_of_ble_eq_true rfl) ⟨Nat.le_of_ble_eq_true rfl, Nat.le_of_ble_eq_true rfl⟩ (dk T_X11_readsItem 112 rfl) (fun H locs Y => ?_)
  refine lv_pop X.1 X.2.1 (dk T_X11_readsItem 113 rfl) rfl ?_
  refine lv_aload_n X.1 X.2.1 (dk T_X11_readsItem 114 rfl) rfl (lv_at hl 0 rfl) ?_
  refine gg X Y fl_X11_68 rfl rfl (dk T_X11_readsItem 115 rfl) ?_
  refine lv_iconst (v := 1) X.1 X.2.1 (dk T_X11_readsItem 116 rfl) ic_1 ?_
  refine lv_aload_n X.1 X.2.1 (dk T_X11_readsItem 117 rfl) rfl (lv_at hl 0 rfl) ?_
  obtain ⟨q20, hq20, h⟩ := bs h
  refine gvI (rest := [.int (1), .ref (g.2.2 (121))]) X Y (c_X11_number q19.2 hq20) cb_X11_346 rfl hl.1 rfl rfl (Nat.le_of_ble_eq_true rfl) ⟨Nat.le_of_ble_eq_true rfl, Nat.le_of_ble_eq_true rfl⟩ (dk T_X11_readsItem 118 rfl) (fun H locs Y => ?_)
  obtain ⟨g21, h⟩ := gd h
  refine gis X Y rfl (inp g21) (dk T_X11_readsItem 119 rfl) (fun H locs Y => ?_)
  refine lv_goto (tgt := 283) X.1 X.2.1 (dk T_X11_readsItem 120 rfl) rfl ?_
  obtain rfl := Option.some.inj h
  exact KR _ _ _ _ Y (dk T_X11_readsItem 151 rfl)
def f_X11_readsItem_j109 (s0 : Int32) (s1 : Int32) (σ : St) : Option (St) :=
  some (up σ 101 38 (s1 + s0))
set_option maxHeartbeats 4000000 in
set_option maxRecDepth 100000 in
theorem w_X11_readsItem_j109 (X : Cx g RX11 cX11_readsItem 1 none p s m args meth c) (s0 : Int32) (s1 : Int32) (σ : St) {w : St} (KR : ∀ (H : Heap) (locs : List Loc) (ls : Array Slot) (pc : Nat), Wd g s w H locs → decode cX11_readsItem pc = .ok (.return_, 1) → W p l e (rmm 3 63) s m args below meth c H locs 0 0 Q (F0 m pc ls [])) {H : Heap} {locs : List Loc} {ls : Array Slot} (Y : Wd g s σ H locs) (hl : lv_has ls 1 []) (h : f_X11_readsItem_j109 s0 s1 σ = some w) : W p l e (rmm 3 63) s m args below meth c H locs 0 0 Q (F0 m 109 ls [.int (s0), .int (s1), .ref (g.2.2 (101))]) := by
  unfold f_X11_readsItem_j109 at h
  refine lv_iadd X.1 X.2.1 (dk T_X11_readsItem 57 rfl) ?_
  refine gp X Y fp_X11_317 rfl (nar_int _) (dk T_X11_readsItem 58 rfl) (fun H locs Y => ?_)
  refine lv_goto (tgt := 283) X.1 X.2.1 (dk T_X11_readsItem 59 rfl) rfl ?_
  obtain rfl := Option.some.inj h
  exact KR _ _ _ _ Y (dk T_X11_readsItem 151 rfl)
def f_X11_readsItem_j108 (s0 : Int32) (σ : St) : Option (St) :=
  f_X11_readsItem_j109 0 s0 σ
set_option maxHeartbeats 4000000 in
set_option maxRecDepth 100000 in
theorem w_X11_readsItem_j108 (X : Cx g RX11 cX11_readsItem 1 none p s m args meth c) (s0 : Int32) (σ : St) {w : St} (KR : ∀ (H : Heap) (locs : List Loc) (ls : Array Slot) (pc : Nat), Wd g s w H locs → decode cX11_readsItem pc = .ok (.return_, 1) → W p l e (rmm 3 63) s m args below meth c H locs 0 0 Q (F0 m pc ls [])) {H : Heap} {locs : List Loc} {ls : Array Slot} (Y : Wd g s σ H locs) (hl : lv_has ls 1 []) (h : f_X11_readsItem_j108 s0 σ = some w) : W p l e (rmm 3 63) s m args below meth c H locs 0 0 Q (F0 m 108 ls [.int (s0), .ref (g.2.2 (101))]) := by
  unfold f_X11_readsItem_j108 at h
  refine lv_iconst (v := 0) X.1 X.2.1 (dk T_X11_readsItem 56 rfl) ic_0 ?_
  exact w_X11_readsItem_j109 X 0 s0 σ KR Y (lv_sub hl [] rfl) h
def f_X11_readsItem_j82 (s0 : Int32) (σ : St) : Option (St) :=
  if (up σ 101 42 s0 101 39) = 0 then f_X11_readsItem_j108 (up σ 101 42 s0 101 38) (up σ 101 42 s0) else if (up σ 101 42 s0 101 42) ≤ 0 then f_X11_readsItem_j108 (up σ 101 42 s0 101 38) (up σ 101 42 s0) else f_X11_readsItem_j109 1 (up σ 101 42 s0 101 38) (up σ 101 42 s0)
set_option maxHeartbeats 4000000 in
set_option maxRecDepth 100000 in
theorem w_X11_readsItem_j82 (X : Cx g RX11 cX11_readsItem 1 none p s m args meth c) (s0 : Int32) (σ : St) {w : St} (KR : ∀ (H : Heap) (locs : List Loc) (ls : Array Slot) (pc : Nat), Wd g s w H locs → decode cX11_readsItem pc = .ok (.return_, 1) → W p l e (rmm 3 63) s m args below meth c H locs 0 0 Q (F0 m pc ls [])) {H : Heap} {locs : List Loc} {ls : Array Slot} (Y : Wd g s σ H locs) (hl : lv_has ls 1 [(0, .ref (g.2.2 (101)))]) (h : f_X11_readsItem_j82 s0 σ = some w) : W p l e (rmm 3 63) s m args below meth c H locs 0 0 Q (F0 m 82 ls [.int (s0), .ref (g.2.2 (101))]) := by
  unfold f_X11_readsItem_j82 at h
  refine gp X Y fp_X11_353 rfl (nar_int _) (dk T_X11_readsItem 44 rfl) (fun H locs Y => ?_)
  refine lv_aload_n X.1 X.2.1 (dk T_X11_readsItem 45 rfl) rfl (lv_at hl 0 rfl) ?_
  refine lv_dup X.1 X.2.1 (dk T_X11_readsItem 46 rfl) rfl ?_
  refine gg X Y fl_X11_317 rfl rfl (dk T_X11_readsItem 47 rfl) ?_
  refine lv_aload_n X.1 X.2.1 (dk T_X11_readsItem 48 rfl) rfl (lv_at hl 0 rfl) ?_
  refine gg X Y fl_X11_320 rfl rfl (dk T_X11_readsItem 49 rfl) ?_
  refine lv_if_eq (tgt := 108) X.1 X.2.1 (dk T_X11_readsItem 50 rfl) rfl (fun c31 => ?_) (fun c31 => ?_)
  · replace h := ipos c31 h
    exact w_X11_readsItem_j108 X (up σ 101 42 s0 101 38) (up σ 101 42 s0) KR Y (lv_sub hl [] rfl) h
  · replace h := ineg c31 h
    refine lv_aload_n X.1 X.2.1 (dk T_X11_readsItem 51 rfl) rfl (lv_at hl 0 rfl) ?_
    refine gg X Y fl_X11_353 rfl rfl (dk T_X11_readsItem 52 rfl) ?_
    refine lv_if_le (tgt := 108) X.1 X.2.1 (dk T_X11_readsItem 53 rfl) rfl (fun c32 => ?_) (fun c32 => ?_)
    · replace h := ipos c32 h
      exact w_X11_readsItem_j108 X (up σ 101 42 s0 101 38) (up σ 101 42 s0) KR Y (lv_sub hl [] rfl) h
    · replace h := ineg c32 h
      refine lv_iconst (v := 1) X.1 X.2.1 (dk T_X11_readsItem 54 rfl) ic_1 ?_
      refine lv_goto (tgt := 109) X.1 X.2.1 (dk T_X11_readsItem 55 rfl) rfl ?_
      exact w_X11_readsItem_j109 X 1 (up σ 101 42 s0 101 38) (up σ 101 42 s0) KR Y (lv_sub hl [] rfl) h
def f_X11_readsItem_0 (σ : St) : Option (St) :=
  (f_X11_here σ).bind fun q1 => if (up σ 101 41 q1 101 41) = 115 then (f_X11_number (up (up σ 101 41 q1) 101 38 ((up σ 101 41 q1 101 38) + 1))).bind fun q22 => chk (inb 0 2) ((f_X11_must 120 (up q22.2 121 (0 : Int32).toNatClampNeg q22.1)).bind fun q24 => (f_X11_number q24.2).bind fun q25 => chk (inb 1 2) ((f_X11_here (up q25.2 121 (1 : Int32).toNatClampNeg q25.1)).bind fun q27 => if q27 = 45 then f_X11_readsItem_j82 1 (up q25.2 121 (1 : Int32).toNatClampNeg q25.1) else (f_X11_here (up q25.2 121 (1 : Int32).toNatClampNeg q25.1)).bind fun q29 => if q29 = 124 then f_X11_readsItem_j82 2 (up q25.2 121 (1 : Int32).toNatClampNeg q25.1) else f_X11_readsItem_j82 0 (up q25.2 121 (1 : Int32).toNatClampNeg q25.1))) else if (up σ 101 41 q1 101 41) = 112 then (f_X11_row (up (up (up (up (up (up σ 101 41 q1) 101 38 ((up σ 101 41 q1 101 38) + 1)) 101 43 0) 101 44 0) 101 45 0) 101 46 0)).bind fun q10 => (lp (f_X11_readsItem_l159) FU q10).bind fun q15 => f_X11_readsItem_j192 q15 else if (up σ 101 41 q1 101 41) = 100 then (f_X11_digit (up (up σ 101 41 q1) 101 38 ((up σ 101 41 q1 101 38) + 1))).bind fun q5 => chk (inb 0 2) ((f_X11_must 58 (up q5.2 121 (0 : Int32).toNatClampNeg q5.1)).bind fun q7 => (f_X11_number q7.2).bind fun q8 => chk (inb 1 2) (some (up q8.2 121 (1 : Int32).toNatClampNeg q8.1))) else some (up (up σ 101 41 q1) 101 39 0)
set_option maxHeartbeats 4000000 in
set_option maxRecDepth 100000 in
theorem w_X11_readsItem_0 (X : Cx g RX11 cX11_readsItem 1 none p s m args meth c) (σ : St) {w : St} (KR : ∀ (H : Heap) (locs : List Loc) (ls : Array Slot) (pc : Nat), Wd g s w H locs → decode cX11_readsItem pc = .ok (.return_, 1) → W p l e (rmm 3 63) s m args below meth c H locs 0 0 Q (F0 m pc ls [])) {H : Heap} {locs : List Loc} {ls : Array Slot} (Y : Wd g s σ H locs) (hl : lv_has ls 1 [(0, .ref (g.2.2 (101)))]) (h : f_X11_readsItem_0 σ = some w) : W p l e (rmm 3 63) s m args below meth c H locs 0 0 Q (F0 m 0 ls []) := by
  unfold f_X11_readsItem_0 at h
  refine lv_aload_n X.1 X.2.1 (dk T_X11_readsItem 0 rfl) rfl (lv_at hl 0 rfl) ?_
  refine lv_aload_n X.1 X.2.1 (dk T_X11_readsItem 1 rfl) rfl (lv_at hl 0 rfl) ?_
  obtain ⟨q1, hq1, h⟩ := bs h
  refine gvI (rest := [.ref (g.2.2 (101))]) X Y (c_X11_here σ hq1) cb_X11_324 rfl hl.1 rfl rfl (Nat.le_of_ble_eq_true rfl) ⟨Nat.le_of_ble_eq_true rfl, Nat.le_of_ble_eq_true rfl⟩ (dk T_X11_readsItem 2 rfl) (fun H locs Y => ?_)
  refine gp X Y fp_X11_343 rfl (nar_int _) (dk T_X11_readsItem 3 rfl) (fun H locs Y => ?_)
  refine lv_aload_n X.1 X.2.1 (dk T_X11_readsItem 4 rfl) rfl (lv_at hl 0 rfl) ?_
  refine gg X Y fl_X11_343 rfl rfl (dk T_X11_readsItem 5 rfl) ?_
  refine lv_bipush (v := 115) X.1 X.2.1 (dk T_X11_readsItem 6 rfl) bp_115 ?_
  refine lv_icmp_ne (tgt := 116) X.1 X.2.1 (dk T_X11_readsItem 7 rfl) rfl (fun c2 => ?_) (fun c2 => ?_)
  · replace h := ineg c2 h
    refine lv_aload_n X.1 X.2.1 (dk T_X11_readsItem 60 rfl) rfl (lv_at hl 0 rfl) ?_
    refine gg X Y fl_X11_343 rfl rfl (dk T_X11_readsItem 61 rfl) ?_
    refine lv_bipush (v := 112) X.1 X.2.1 (dk T_X11_readsItem 62 rfl) bp_112 ?_
    refine lv_icmp_ne (tgt := 229) X.1 X.2.1 (dk T_X11_readsItem 63 rfl) rfl (fun c3 => ?_) (fun c3 => ?_)
    · replace h := ineg c3 h
      refine lv_aload_n X.1 X.2.1 (dk T_X11_readsItem 121 rfl) rfl (lv_at hl 0 rfl) ?_
      refine gg X Y fl_X11_343 rfl rfl (dk T_X11_readsItem 122 rfl) ?_
      refine lv_bipush (v := 100) X.1 X.2.1 (dk T_X11_readsItem 123 rfl) bp_100 ?_
      refine lv_icmp_ne (tgt := 278) X.1 X.2.1 (dk T_X11_readsItem 124 rfl) rfl (fun c4 => ?_) (fun c4 => ?_)
      · replace h := ineg c4 h
        refine lv_aload_n X.1 X.2.1 (dk T_X11_readsItem 148 rfl) rfl (lv_at hl 0 rfl) ?_
        refine lv_iconst (v := 0) X.1 X.2.1 (dk T_X11_readsItem 149 rfl) ic_0 ?_
        refine gp X Y fp_X11_320 rfl nar_b0 (dk T_X11_readsItem 150 rfl) (fun H locs Y => ?_)
        obtain rfl := Option.some.inj h
        exact KR _ _ _ _ Y (dk T_X11_readsItem 151 rfl)
      · replace h := ipos c4 h
        refine lv_aload_n X.1 X.2.1 (dk T_X11_readsItem 125 rfl) rfl (lv_at hl 0 rfl) ?_
        refine lv_dup X.1 X.2.1 (dk T_X11_readsItem 126 rfl) rfl ?_
        refine gg X Y fl_X11_317 rfl rfl (dk T_X11_readsItem 127 rfl) ?_
        refine lv_iconst (v := 1) X.1 X.2.1 (dk T_X11_readsItem 128 rfl) ic_1 ?_
        refine lv_iadd X.1 X.2.1 (dk T_X11_readsItem 129 rfl) ?_
        refine gp X Y fp_X11_317 rfl (nar_int _) (dk T_X11_readsItem 130 rfl) (fun H locs Y => ?_)
        refine lv_aload_n X.1 X.2.1 (dk T_X11_readsItem 131 rfl) rfl (lv_at hl 0 rfl) ?_
        refine gg X Y fl_X11_68 rfl rfl (dk T_X11_readsItem 132 rfl) ?_
        refine lv_iconst (v := 0) X.1 X.2.1 (dk T_X11_readsItem 133 rfl) ic_0 ?_
        refine lv_aload_n X.1 X.2.1 (dk T_X11_readsItem 134 rfl) rfl (lv_at hl 0 rfl) ?_
        obtain ⟨q5, hq5, h⟩ := bs h
        refine gvI (rest := [.int (0), .ref (g.2.2 (121))]) X Y (c_X11_digit (up (up σ 101 41 q1) 101 38 ((up σ 101 41 q1 101 38) + 1)) hq5) cb_X11_328 rfl hl.1 rfl rfl (Nat.le_of_ble_eq_true rfl) ⟨Nat.le_of_ble_eq_true rfl, Nat.le_of_ble_eq_true rfl⟩ (dk T_X11_readsItem 135 rfl) (fun H locs Y => ?_)
        obtain ⟨g6, h⟩ := gd h
        refine gis X Y rfl (inp g6) (dk T_X11_readsItem 136 rfl) (fun H locs Y => ?_)
        refine lv_aload_n X.1 X.2.1 (dk T_X11_readsItem 137 rfl) rfl (lv_at hl 0 rfl) ?_
        refine lv_bipush (v := 58) X.1 X.2.1 (dk T_X11_readsItem 138 rfl) bp_58 ?_
        obtain ⟨q7, hq7, h⟩ := bs h
        refine gvI (rest := []) X Y (c_X11_must 58 (up q5.2 121 (0 : Int32).toNatClampNeg q5.1) hq7) cb_X11_349 rfl hl.1 rfl rfl (Nat.le_of_ble_eq_true rfl) ⟨Nat.le_of_ble_eq_true rfl, Nat.le_of_ble_eq_true rfl⟩ (dk T_X11_readsItem 139 rfl) (fun H locs Y => ?_)
        refine lv_pop X.1 X.2.1 (dk T_X11_readsItem 140 rfl) rfl ?_
        refine lv_aload_n X.1 X.2.1 (dk T_X11_readsItem 141 rfl) rfl (lv_at hl 0 rfl) ?_
        refine gg X Y fl_X11_68 rfl rfl (dk T_X11_readsItem 142 rfl) ?_
        refine lv_iconst (v := 1) X.1 X.2.1 (dk T_X11_readsItem 143 rfl) ic_1 ?_
        refine lv_aload_n X.1 X.2.1 (dk T_X11_readsItem 144 rfl) rfl (lv_at hl 0 rfl) ?_
        obtain ⟨q8, hq8, h⟩ := bs h
        refine gvI (rest := [.int (1), .ref (g.2.2 (121))]) X Y (c_X11_number q7.2 hq8) cb_X11_346 rfl hl.1 rfl rfl (Nat.le_of_ble_eq_true rfl) ⟨Nat.le_of_ble_eq_true rfl, Nat.le_of_ble_eq_true rfl⟩ (dk T_X11_readsItem 145 rfl) (fun H locs Y => ?_)
        obtain ⟨g9, h⟩ := gd h
        refine gis X Y rfl (inp g9) (dk T_X11_readsItem 146 rfl) (fun H locs Y => ?_)
        refine lv_goto (tgt := 283) X.1 X.2.1 (dk T_X11_readsItem 147 rfl) rfl ?_
        obtain rfl := Option.some.inj h
        exact KR _ _ _ _ Y (dk T_X11_readsItem 151 rfl)
    · replace h := ipos c3 h
      refine lv_aload_n X.1 X.2.1 (dk T_X11_readsItem 64 rfl) rfl (lv_at hl 0 rfl) ?_
      refine lv_dup X.1 X.2.1 (dk T_X11_readsItem 65 rfl) rfl ?_
      refine gg X Y fl_X11_317 rfl rfl (dk T_X11_readsItem 66 rfl) ?_
      refine lv_iconst (v := 1) X.1 X.2.1 (dk T_X11_readsItem 67 rfl) ic_1 ?_
      refine lv_iadd X.1 X.2.1 (dk T_X11_readsItem 68 rfl) ?_
      refine gp X Y fp_X11_317 rfl (nar_int _) (dk T_X11_readsItem 69 rfl) (fun H locs Y => ?_)
      refine lv_aload_n X.1 X.2.1 (dk T_X11_readsItem 70 rfl) rfl (lv_at hl 0 rfl) ?_
      refine lv_iconst (v := 0) X.1 X.2.1 (dk T_X11_readsItem 71 rfl) ic_0 ?_
      refine gp X Y fp_X11_331 rfl (nar_int _) (dk T_X11_readsItem 72 rfl) (fun H locs Y => ?_)
      refine lv_aload_n X.1 X.2.1 (dk T_X11_readsItem 73 rfl) rfl (lv_at hl 0 rfl) ?_
      refine lv_iconst (v := 0) X.1 X.2.1 (dk T_X11_readsItem 74 rfl) ic_0 ?_
      refine gp X Y fp_X11_340 rfl (nar_int _) (dk T_X11_readsItem 75 rfl) (fun H locs Y => ?_)
      refine lv_aload_n X.1 X.2.1 (dk T_X11_readsItem 76 rfl) rfl (lv_at hl 0 rfl) ?_
      refine lv_iconst (v := 0) X.1 X.2.1 (dk T_X11_readsItem 77 rfl) ic_0 ?_
      refine gp X Y fp_X11_334 rfl (nar_int _) (dk T_X11_readsItem 78 rfl) (fun H locs Y => ?_)
      refine lv_aload_n X.1 X.2.1 (dk T_X11_readsItem 79 rfl) rfl (lv_at hl 0 rfl) ?_
      refine lv_iconst (v := 0) X.1 X.2.1 (dk T_X11_readsItem 80 rfl) ic_0 ?_
      refine gp X Y fp_X11_337 rfl nar_b0 (dk T_X11_readsItem 81 rfl) (fun H locs Y => ?_)
      refine lv_aload_n X.1 X.2.1 (dk T_X11_readsItem 82 rfl) rfl (lv_at hl 0 rfl) ?_
      obtain ⟨q10, hq10, h⟩ := bs h
      refine gvV (rest := []) X Y (c_X11_row (up (up (up (up (up (up σ 101 41 q1) 101 38 ((up σ 101 41 q1 101 38) + 1)) 101 43 0) 101 44 0) 101 45 0) 101 46 0) hq10) cb_X11_356 rfl hl.1 rfl rfl (Nat.le_of_ble_eq_true rfl) ⟨Nat.le_of_ble_eq_true rfl, Nat.le_of_ble_eq_true rfl⟩ (dk T_X11_readsItem 83 rfl) (fun H locs Y => ?_)
      obtain ⟨q15, hq15, h⟩ := bs h
      refine w_X11_readsItem_l159 X σ (fun v e H locs ls Y hl => ?_) FU q10 Y (lv_sub hl [0] rfl) hq15
      · obtain rfl := e
        exact w_X11_readsItem_j192 X q15 KR Y (lv_sub hl [0] rfl) h
  · replace h := ipos c2 h
    refine lv_aload_n X.1 X.2.1 (dk T_X11_readsItem 8 rfl) rfl (lv_at hl 0 rfl) ?_
    refine lv_dup X.1 X.2.1 (dk T_X11_readsItem 9 rfl) rfl ?_
    refine gg X Y fl_X11_317 rfl rfl (dk T_X11_readsItem 10 rfl) ?_
    refine lv_iconst (v := 1) X.1 X.2.1 (dk T_X11_readsItem 11 rfl) ic_1 ?_
    refine lv_iadd X.1 X.2.1 (dk T_X11_readsItem 12 rfl) ?_
    refine gp X Y fp_X11_317 rfl (nar_int _) (dk T_X11_readsItem 13 rfl) (fun H locs Y => ?_)
    refine lv_aload_n X.1 X.2.1 (dk T_X11_readsItem 14 rfl) rfl (lv_at hl 0 rfl) ?_
    refine gg X Y fl_X11_68 rfl rfl (dk T_X11_readsItem 15 rfl) ?_
    refine lv_iconst (v := 0) X.1 X.2.1 (dk T_X11_readsItem 16 rfl) ic_0 ?_
    refine lv_aload_n X.1 X.2.1 (dk T_X11_readsItem 17 rfl) rfl (lv_at hl 0 rfl) ?_
    obtain ⟨q22, hq22, h⟩ := bs h
    refine gvI (rest := [.int (0), .ref (g.2.2 (121))]) X Y (c_X11_number (up (up σ 101 41 q1) 101 38 ((up σ 101 41 q1 101 38) + 1)) hq22) cb_X11_346 rfl hl.1 rfl rfl (Nat.le_of_ble_eq_true rfl) ⟨Nat.le_of_ble_eq_true rfl, Nat.le_of_ble_eq_true rfl⟩ (dk T_X11_readsItem 18 rfl) (fun H locs Y => ?_)
    obtain ⟨g23, h⟩ := gd h
    refine gis X Y rfl (inp g23) (dk T_X11_readsItem 19 rfl) (fun H locs Y => ?_)
    refine lv_aload_n X.1 X.2.1 (dk T_X11_readsItem 20 rfl) rfl (lv_at hl 0 rfl) ?_
    refine lv_bipush (v := 120) X.1 X.2.1 (dk T_X11_readsItem 21 rfl) bp_120 ?_
    obtain ⟨q24, hq24, h⟩ := bs h
    refine gvI (rest := []) X Y (c_X11_must 120 (up q22.2 121 (0 : Int32).toNatClampNeg q22.1) hq24) cb_X11_349 rfl hl.1 rfl rfl (Nat.le_of_ble_eq_true rfl) ⟨Nat.le_of_ble_eq_true rfl, Nat.le_of_ble_eq_true rfl⟩ (dk T_X11_readsItem 22 rfl) (fun H locs Y => ?_)
    refine lv_pop X.1 X.2.1 (dk T_X11_readsItem 23 rfl) rfl ?_
    refine lv_aload_n X.1 X.2.1 (dk T_X11_readsItem 24 rfl) rfl (lv_at hl 0 rfl) ?_
    refine gg X Y fl_X11_68 rfl rfl (dk T_X11_readsItem 25 rfl) ?_
    refine lv_iconst (v := 1) X.1 X.2.1 (dk T_X11_readsItem 26 rfl) ic_1 ?_
    refine lv_aload_n X.1 X.2.1 (dk T_X11_readsItem 27 rfl) rfl (lv_at hl 0 rfl) ?_
    obtain ⟨q25, hq25, h⟩ := bs h
    refine gvI (rest := [.int (1), .ref (g.2.2 (121))]) X Y (c_X11_number q24.2 hq25) cb_X11_346 rfl hl.1 rfl rfl (Nat.le_of_ble_eq_true rfl) ⟨Nat.le_of_ble_eq_true rfl, Nat.le_of_ble_eq_true rfl⟩ (dk T_X11_readsItem 28 rfl) (fun H locs Y => ?_)
    obtain ⟨g26, h⟩ := gd h
    refine gis X Y rfl (inp g26) (dk T_X11_readsItem 29 rfl) (fun H locs Y => ?_)
    refine lv_aload_n X.1 X.2.1 (dk T_X11_readsItem 30 rfl) rfl (lv_at hl 0 rfl) ?_
    refine lv_aload_n X.1 X.2.1 (dk T_X11_readsItem 31 rfl) rfl (lv_at hl 0 rfl) ?_
    obtain ⟨q27, hq27, h⟩ := bs h
    refine gvI (rest := [.ref (g.2.2 (101))]) X Y (c_X11_here (up q25.2 121 (1 : Int32).toNatClampNeg q25.1) hq27) cb_X11_324 rfl hl.1 rfl rfl (Nat.le_of_ble_eq_true rfl) ⟨Nat.le_of_ble_eq_true rfl, Nat.le_of_ble_eq_true rfl⟩ (dk T_X11_readsItem 32 rfl) (fun H locs Y => ?_)
    refine lv_bipush (v := 45) X.1 X.2.1 (dk T_X11_readsItem 33 rfl) bp_45 ?_
    refine lv_icmp_ne (tgt := 68) X.1 X.2.1 (dk T_X11_readsItem 34 rfl) rfl (fun c28 => ?_) (fun c28 => ?_)
    · replace h := ineg c28 h
      refine lv_aload_n X.1 X.2.1 (dk T_X11_readsItem 37 rfl) rfl (lv_at hl 0 rfl) ?_
      obtain ⟨q29, hq29, h⟩ := bs h
      refine gvI (rest := [.ref (g.2.2 (101))]) X Y (c_X11_here (up q25.2 121 (1 : Int32).toNatClampNeg q25.1) hq29) cb_X11_324 rfl hl.1 rfl rfl (Nat.le_of_ble_eq_true rfl) ⟨Nat.le_of_ble_eq_true rfl, Nat.le_of_ble_eq_true rfl⟩ (dk T_X11_readsItem 38 rfl) (fun H locs Y => ?_)
      refine lv_bipush (v := 124) X.1 X.2.1 (dk T_X11_readsItem 39 rfl) bp_124 ?_
      refine lv_icmp_ne (tgt := 81) X.1 X.2.1 (dk T_X11_readsItem 40 rfl) rfl (fun c30 => ?_) (fun c30 => ?_)
      · replace h := ineg c30 h
        refine lv_iconst (v := 0) X.1 X.2.1 (dk T_X11_readsItem 43 rfl) ic_0 ?_
        exact w_X11_readsItem_j82 X 0 (up q25.2 121 (1 : Int32).toNatClampNeg q25.1) KR Y (lv_sub hl [0] rfl) h
      · replace h := ipos c30 h
        refine lv_iconst (v := 2) X.1 X.2.1 (dk T_X11_readsItem 41 rfl) ic_2 ?_
        refine lv_goto (tgt := 82) X.1 X.2.1 (dk T_X11_readsItem 42 rfl) rfl ?_
        exact w_X11_readsItem_j82 X 2 (up q25.2 121 (1 : Int32).toNatClampNeg q25.1) KR Y (lv_sub hl [0] rfl) h
    · replace h := ipos c28 h
      refine lv_iconst (v := 1) X.1 X.2.1 (dk T_X11_readsItem 35 rfl) ic_1 ?_
      refine lv_goto (tgt := 82) X.1 X.2.1 (dk T_X11_readsItem 36 rfl) rfl ?_
      exact w_X11_readsItem_j82 X 1 (up q25.2 121 (1 : Int32).toNatClampNeg q25.1) KR Y (lv_sub hl [0] rfl) h
def f_X11_readsItem (σ : St) : Option (St) := f_X11_readsItem_0 σ
set_option maxHeartbeats 4000000 in
set_option maxRecDepth 100000 in
theorem c_X11_readsItem {l : Launch} {g : Geo} (σ : St) {w : St} (h : f_X11_readsItem σ = some w) : CtV l yX11_readsItem cX11_readsItem 1 none (rmm 3 63) g [.ref (g.2.2 (101))] σ w := enV (by decide) rfl (Nat.le_of_ble_eq_true rfl) (fun p e s m args below meth c Q X Y ls hl KR => w_X11_readsItem_0 X σ KR Y hl h)
def I_X11_isText : List (Nat × Instr × Nat) := [(0, .aload_n 0, 1), (1, .iconst 0, 1), (2, .putfield 317, 3), (5, .aload_n 0, 1), (6, .iconst 0, 1), (7, .putfield 362, 3), (10, .aload_n 0, 1), (11, .iconst 1, 1), (12, .putfield 320, 3), (15, .aload_n 0, 1), (16, .invokevirtual 373, 3), (19, .aload_n 0, 1), (20, .getfield 320, 3), (23, .ifCond .eq 39, 3), (26, .aload_n 0, 1), (27, .invokevirtual 324, 3), (30, .bipush 59, 2), (32, .if_icmp .ne 30, 3), (35, .aload_n 0, 1), (36, .dup, 1), (37, .getfield 317, 3), (40, .iconst 1, 1), (41, .iadd, 1), (42, .putfield 317, 3), (45, .aload_n 0, 1), (46, .dup, 1), (47, .getfield 362, 3), (50, .iconst 1, 1), (51, .iadd, 1), (52, .putfield 362, 3), (55, .aload_n 0, 1), (56, .invokevirtual 373, 3), (59, .goto (-40), 3), (62, .aload_n 0, 1), (63, .aload_n 0, 1), (64, .getfield 320, 3), (67, .ifCond .eq 18, 3), (70, .aload_n 0, 1), (71, .getfield 317, 3), (74, .aload_n 0, 1), (75, .getfield 314, 3), (78, .if_icmp .ne 7, 3), (81, .iconst 1, 1), (82, .goto 4, 3), (85, .iconst 0, 1), (86, .putfield 320, 3), (89, .aload_n 0, 1), (90, .getfield 320, 3), (93, .ireturn, 1)]
set_option maxRecDepth 100000 in
theorem T_X11_isText : ∀ q ∈ I_X11_isText, decode cX11_isText q.1 = .ok (q.2.1, q.2.2) := by decide +kernel
def f_X11_isText_l19 (z : St) : Option ((St) ⊕ (St)) :=
  if (z 101 39) = 0 then some (.inr z) else (f_X11_here z).bind fun q3 => if q3 = 59 then (f_X11_readsItem (up (up z 101 38 ((z 101 38) + 1)) 101 40 ((up z 101 38 ((z 101 38) + 1) 101 40) + 1))).bind fun q5 => some (.inl q5) else some (.inr z)
set_option maxHeartbeats 4000000 in
set_option maxRecDepth 100000 in
theorem w_X11_isText_l19 (X : Cx g RX11 cX11_isText 1 (some .boolean) p s m args meth c) (σ : St) {r : St} (KX0 : ∀ (v : St), r = v → ∀ (H : Heap) (locs : List Loc) (ls : Array Slot), Wd g s v H locs → lv_has ls 1 [(0, .ref (g.2.2 (101)))] → W p l e (rmm 4 83) s m args below meth c H locs 0 0 Q (F0 m 62 ls [])) : ∀ (n : Nat) (z : St) {H : Heap} {locs : List Loc} {ls : Array Slot}, Wd g s z H locs → lv_has ls 1 [(0, .ref (g.2.2 (101)))] → lp (f_X11_isText_l19) n z = some r → W p l e (rmm 4 83) s m args below meth c H locs 0 0 Q (F0 m 19 ls []) := by
  intro n
  induction n with
  | zero => intro z H locs ls Y hl h; cases h
  | succ n ih =>
    intro z H locs ls Y hl h
    obtain ⟨w, h, hw⟩ := lps h
    have KB : ∀ (v : St), w = .inl v → ∀ (H : Heap) (locs : List Loc) (ls : Array Slot), Wd g s v H locs → lv_has ls 1 [(0, .ref (g.2.2 (101)))] → W p l e (rmm 4 83) s m args below meth c H locs 0 0 Q (F0 m 19 ls []) := fun v e H locs ls Y hl => ih v Y hl (lpl hw e)
    have KX0 := fun (v : St) (e : w = .inr v) => KX0 v (lpr hw e)
    unfold f_X11_isText_l19 at h
    refine lv_aload_n X.1 X.2.1 (dk T_X11_isText 11 rfl) rfl (lv_at hl 0 rfl) ?_
    refine gg X Y fl_X11_320 rfl rfl (dk T_X11_isText 12 rfl) ?_
    refine lv_if_eq (tgt := 62) X.1 X.2.1 (dk T_X11_isText 13 rfl) rfl (fun c2 => ?_) (fun c2 => ?_)
    · replace h := ipos c2 h
      exact KX0 z (Option.some.inj h).symm _ _ _ Y (lv_sub hl [0] rfl)
    · replace h := ineg c2 h
      refine lv_aload_n X.1 X.2.1 (dk T_X11_isText 14 rfl) rfl (lv_at hl 0 rfl) ?_
      obtain ⟨q3, hq3, h⟩ := bs h
      refine gvI (rest := []) X Y (c_X11_here z hq3) cb_X11_324 rfl hl.1 rfl rfl (Nat.le_of_ble_eq_true rfl) ⟨Nat.le_of_ble_eq_true rfl, Nat.le_of_ble_eq_true rfl⟩ (dk T_X11_isText 15 rfl) (fun H locs Y => ?_)
      refine lv_bipush (v := 59) X.1 X.2.1 (dk T_X11_isText 16 rfl) bp_59 ?_
      refine lv_icmp_ne (tgt := 62) X.1 X.2.1 (dk T_X11_isText 17 rfl) rfl (fun c4 => ?_) (fun c4 => ?_)
      · replace h := ineg c4 h
        exact KX0 z (Option.some.inj h).symm _ _ _ Y (lv_sub hl [0] rfl)
      · replace h := ipos c4 h
        refine lv_aload_n X.1 X.2.1 (dk T_X11_isText 18 rfl) rfl (lv_at hl 0 rfl) ?_
        refine lv_dup X.1 X.2.1 (dk T_X11_isText 19 rfl) rfl ?_
        refine gg X Y fl_X11_317 rfl rfl (dk T_X11_isText 20 rfl) ?_
        refine lv_iconst (v := 1) X.1 X.2.1 (dk T_X11_isText 21 rfl) ic_1 ?_
        refine lv_iadd X.1 X.2.1 (dk T_X11_isText 22 rfl) ?_
        refine gp X Y fp_X11_317 rfl (nar_int _) (dk T_X11_isText 23 rfl) (fun H locs Y => ?_)
        refine lv_aload_n X.1 X.2.1 (dk T_X11_isText 24 rfl) rfl (lv_at hl 0 rfl) ?_
        refine lv_dup X.1 X.2.1 (dk T_X11_isText 25 rfl) rfl ?_
        refine gg X Y fl_X11_362 rfl rfl (dk T_X11_isText 26 rfl) ?_
        refine lv_iconst (v := 1) X.1 X.2.1 (dk T_X11_isText 27 rfl) ic_1 ?_
        refine lv_iadd X.1 X.2.1 (dk T_X11_isText 28 rfl) ?_
        refine gp X Y fp_X11_362 rfl (nar_int _) (dk T_X11_isText 29 rfl) (fun H locs Y => ?_)
        refine lv_aload_n X.1 X.2.1 (dk T_X11_isText 30 rfl) rfl (lv_at hl 0 rfl) ?_
        obtain ⟨q5, hq5, h⟩ := bs h
        refine gvV (rest := []) X Y (c_X11_readsItem (up (up z 101 38 ((z 101 38) + 1)) 101 40 ((up z 101 38 ((z 101 38) + 1) 101 40) + 1)) hq5) cb_X11_373 rfl hl.1 rfl rfl (Nat.le_of_ble_eq_true rfl) ⟨Nat.le_of_ble_eq_true rfl, Nat.le_of_ble_eq_true rfl⟩ (dk T_X11_isText 31 rfl) (fun H locs Y => ?_)
        refine lv_goto (tgt := 19) X.1 X.2.1 (dk T_X11_isText 32 rfl) rfl ?_
        exact KB q5 (Option.some.inj h).symm _ _ _ Y (lv_sub hl [0] rfl)
def f_X11_isText_j86 (s0 : Int32) (σ : St) : Option (Int32 × St) :=
  chk (okz s0) (some (up σ 101 39 s0 101 39, up σ 101 39 s0))
set_option maxHeartbeats 4000000 in
set_option maxRecDepth 100000 in
theorem w_X11_isText_j86 (X : Cx g RX11 cX11_isText 1 (some .boolean) p s m args meth c) (s0 : Int32) (σ : St) {w : Int32 × St} (KR : ∀ (H : Heap) (locs : List Loc) (ls : Array Slot) (pc : Nat), Wd g s w.2 H locs → decode cX11_isText pc = .ok (.ireturn, 1) → W p l e (rmm 4 83) s m args below meth c H locs 0 0 Q (F0 m pc ls [.int (w.1)])) {H : Heap} {locs : List Loc} {ls : Array Slot} (Y : Wd g s σ H locs) (hl : lv_has ls 1 [(0, .ref (g.2.2 (101)))]) (h : f_X11_isText_j86 s0 σ = some w) : W p l e (rmm 4 83) s m args below meth c H locs 0 0 Q (F0 m 86 ls [.int (s0), .ref (g.2.2 (101))]) := by
  unfold f_X11_isText_j86 at h
  obtain ⟨g8, h⟩ := gd h
  refine gp X Y fp_X11_320 rfl (nar_z g8) (dk T_X11_isText 45 rfl) (fun H locs Y => ?_)
  refine lv_aload_n X.1 X.2.1 (dk T_X11_isText 46 rfl) rfl (lv_at hl 0 rfl) ?_
  refine gg X Y fl_X11_320 rfl rfl (dk T_X11_isText 47 rfl) ?_
  obtain rfl := Option.some.inj h
  exact KR _ _ _ _ Y (dk T_X11_isText 48 rfl)
def f_X11_isText_j85 (σ : St) : Option (Int32 × St) :=
  f_X11_isText_j86 0 σ
set_option maxHeartbeats 4000000 in
set_option maxRecDepth 100000 in
theorem w_X11_isText_j85 (X : Cx g RX11 cX11_isText 1 (some .boolean) p s m args meth c) (σ : St) {w : Int32 × St} (KR : ∀ (H : Heap) (locs : List Loc) (ls : Array Slot) (pc : Nat), Wd g s w.2 H locs → decode cX11_isText pc = .ok (.ireturn, 1) → W p l e (rmm 4 83) s m args below meth c H locs 0 0 Q (F0 m pc ls [.int (w.1)])) {H : Heap} {locs : List Loc} {ls : Array Slot} (Y : Wd g s σ H locs) (hl : lv_has ls 1 [(0, .ref (g.2.2 (101)))]) (h : f_X11_isText_j85 σ = some w) : W p l e (rmm 4 83) s m args below meth c H locs 0 0 Q (F0 m 85 ls [.ref (g.2.2 (101))]) := by
  unfold f_X11_isText_j85 at h
  refine lv_iconst (v := 0) X.1 X.2.1 (dk T_X11_isText 44 rfl) ic_0 ?_
  exact w_X11_isText_j86 X 0 σ KR Y (lv_sub hl [0] rfl) h
def f_X11_isText_j62 (σ : St) : Option (Int32 × St) :=
  if (σ 101 39) = 0 then f_X11_isText_j85 σ else if (σ 101 38) = (σ 101 8) then f_X11_isText_j86 1 σ else f_X11_isText_j85 σ
set_option maxHeartbeats 4000000 in
set_option maxRecDepth 100000 in
theorem w_X11_isText_j62 (X : Cx g RX11 cX11_isText 1 (some .boolean) p s m args meth c) (σ : St) {w : Int32 × St} (KR : ∀ (H : Heap) (locs : List Loc) (ls : Array Slot) (pc : Nat), Wd g s w.2 H locs → decode cX11_isText pc = .ok (.ireturn, 1) → W p l e (rmm 4 83) s m args below meth c H locs 0 0 Q (F0 m pc ls [.int (w.1)])) {H : Heap} {locs : List Loc} {ls : Array Slot} (Y : Wd g s σ H locs) (hl : lv_has ls 1 [(0, .ref (g.2.2 (101)))]) (h : f_X11_isText_j62 σ = some w) : W p l e (rmm 4 83) s m args below meth c H locs 0 0 Q (F0 m 62 ls []) := by
  unfold f_X11_isText_j62 at h
  refine lv_aload_n X.1 X.2.1 (dk T_X11_isText 33 rfl) rfl (lv_at hl 0 rfl) ?_
  refine lv_aload_n X.1 X.2.1 (dk T_X11_isText 34 rfl) rfl (lv_at hl 0 rfl) ?_
  refine gg X Y fl_X11_320 rfl rfl (dk T_X11_isText 35 rfl) ?_
  refine lv_if_eq (tgt := 85) X.1 X.2.1 (dk T_X11_isText 36 rfl) rfl (fun c7 => ?_) (fun c7 => ?_)
  · replace h := ipos c7 h
    exact w_X11_isText_j85 X σ KR Y (lv_sub hl [0] rfl) h
  · replace h := ineg c7 h
    refine lv_aload_n X.1 X.2.1 (dk T_X11_isText 37 rfl) rfl (lv_at hl 0 rfl) ?_
    refine gg X Y fl_X11_317 rfl rfl (dk T_X11_isText 38 rfl) ?_
    refine lv_aload_n X.1 X.2.1 (dk T_X11_isText 39 rfl) rfl (lv_at hl 0 rfl) ?_
    refine gg X Y fl_X11_314 rfl rfl (dk T_X11_isText 40 rfl) ?_
    refine lv_icmp_ne (tgt := 85) X.1 X.2.1 (dk T_X11_isText 41 rfl) rfl (fun c9 => ?_) (fun c9 => ?_)
    · replace h := ineg c9 h
      exact w_X11_isText_j85 X σ KR Y (lv_sub hl [0] rfl) h
    · replace h := ipos c9 h
      refine lv_iconst (v := 1) X.1 X.2.1 (dk T_X11_isText 42 rfl) ic_1 ?_
      refine lv_goto (tgt := 86) X.1 X.2.1 (dk T_X11_isText 43 rfl) rfl ?_
      exact w_X11_isText_j86 X 1 σ KR Y (lv_sub hl [0] rfl) h
def f_X11_isText_0 (σ : St) : Option (Int32 × St) :=
  (f_X11_readsItem (up (up (up σ 101 38 0) 101 40 0) 101 39 1)).bind fun q1 => (lp (f_X11_isText_l19) FU q1).bind fun q6 => f_X11_isText_j62 q6
set_option maxHeartbeats 4000000 in
set_option maxRecDepth 100000 in
theorem w_X11_isText_0 (X : Cx g RX11 cX11_isText 1 (some .boolean) p s m args meth c) (σ : St) {w : Int32 × St} (KR : ∀ (H : Heap) (locs : List Loc) (ls : Array Slot) (pc : Nat), Wd g s w.2 H locs → decode cX11_isText pc = .ok (.ireturn, 1) → W p l e (rmm 4 83) s m args below meth c H locs 0 0 Q (F0 m pc ls [.int (w.1)])) {H : Heap} {locs : List Loc} {ls : Array Slot} (Y : Wd g s σ H locs) (hl : lv_has ls 1 [(0, .ref (g.2.2 (101)))]) (h : f_X11_isText_0 σ = some w) : W p l e (rmm 4 83) s m args below meth c H locs 0 0 Q (F0 m 0 ls []) := by
  unfold f_X11_isText_0 at h
  refine lv_aload_n X.1 X.2.1 (dk T_X11_isText 0 rfl) rfl (lv_at hl 0 rfl) ?_
  refine lv_iconst (v := 0) X.1 X.2.1 (dk T_X11_isText 1 rfl) ic_0 ?_
  refine gp X Y fp_X11_317 rfl (nar_int _) (dk T_X11_isText 2 rfl) (fun H locs Y => ?_)
  refine lv_aload_n X.1 X.2.1 (dk T_X11_isText 3 rfl) rfl (lv_at hl 0 rfl) ?_
  refine lv_iconst (v := 0) X.1 X.2.1 (dk T_X11_isText 4 rfl) ic_0 ?_
  refine gp X Y fp_X11_362 rfl (nar_int _) (dk T_X11_isText 5 rfl) (fun H locs Y => ?_)
  refine lv_aload_n X.1 X.2.1 (dk T_X11_isText 6 rfl) rfl (lv_at hl 0 rfl) ?_
  refine lv_iconst (v := 1) X.1 X.2.1 (dk T_X11_isText 7 rfl) ic_1 ?_
  refine gp X Y fp_X11_320 rfl nar_b1 (dk T_X11_isText 8 rfl) (fun H locs Y => ?_)
  refine lv_aload_n X.1 X.2.1 (dk T_X11_isText 9 rfl) rfl (lv_at hl 0 rfl) ?_
  obtain ⟨q1, hq1, h⟩ := bs h
  refine gvV (rest := []) X Y (c_X11_readsItem (up (up (up σ 101 38 0) 101 40 0) 101 39 1) hq1) cb_X11_373 rfl hl.1 rfl rfl (Nat.le_of_ble_eq_true rfl) ⟨Nat.le_of_ble_eq_true rfl, Nat.le_of_ble_eq_true rfl⟩ (dk T_X11_isText 10 rfl) (fun H locs Y => ?_)
  obtain ⟨q6, hq6, h⟩ := bs h
  refine w_X11_isText_l19 X σ (fun v e H locs ls Y hl => ?_) FU q1 Y (lv_sub hl [0] rfl) hq6
  · obtain rfl := e
    exact w_X11_isText_j62 X q6 KR Y (lv_sub hl [0] rfl) h
def f_X11_isText (σ : St) : Option (Int32 × St) := bzW (f_X11_isText_0 σ)
set_option maxHeartbeats 4000000 in
set_option maxRecDepth 100000 in
theorem c_X11_isText {l : Launch} {g : Geo} (σ : St) {w : Int32 × St} (h : f_X11_isText σ = some w) : CtI l yX11_isText cX11_isText 1 (some .boolean) (rmm 4 83) g [.ref (g.2.2 (101))] σ w.1 w.2 := by
  obtain ⟨h, hz⟩ := bzW_s h
  exact enI .boolean (by decide) rfl (bz_n hz) (Nat.le_of_ble_eq_true rfl) (fun p e s m args below meth c Q X Y ls hl KR => w_X11_isText_0 X σ KR Y hl h)
def I_X11_faults : List (Nat × Instr × Nat) := [(0, .aload_n 0, 1), (1, .getfield 31, 3), (4, .iload_n 1, 1), (5, .iload_n 2, 1), (6, .iastore, 1), (7, .aload_n 0, 1), (8, .getfield 34, 3), (11, .iload_n 1, 1), (12, .iload_n 3, 1), (13, .iastore, 1), (14, .aload_n 0, 1), (15, .iload_n 1, 1), (16, .iconst 1, 1), (17, .iadd, 1), (18, .putfield 359, 3), (21, .return_, 1)]
set_option maxRecDepth 100000 in
theorem T_X11_faults : ∀ q ∈ I_X11_faults, decode cX11_faults q.1 = .ok (q.2.1, q.2.2) := by decide +kernel
def f_X11_faults_0 (x1 : Int32) (x2 : Int32) (x3 : Int32) (σ : St) : Option (St) :=
  chk (inb x1 3) (chk (inb x1 3) (some (up (up (up σ 109 x1.toNatClampNeg x2) 110 x1.toNatClampNeg x3) 101 14 (x1 + 1))))
set_option maxHeartbeats 4000000 in
set_option maxRecDepth 100000 in
theorem w_X11_faults_0 (X : Cx g RX11 cX11_faults 4 none p s m args meth c) (x1 : Int32) (x2 : Int32) (x3 : Int32) (σ : St) {w : St} (KR : ∀ (H : Heap) (locs : List Loc) (ls : Array Slot) (pc : Nat), Wd g s w H locs → decode cX11_faults pc = .ok (.return_, 1) → W p l e (rmm 0 0) s m args below meth c H locs 0 0 Q (F0 m pc ls [])) {H : Heap} {locs : List Loc} {ls : Array Slot} (Y : Wd g s σ H locs) (hl : lv_has ls 4 [(0, .ref (g.2.2 (101))), (1, .int (x1)), (2, .int (x2)), (3, .int (x3))]) (h : f_X11_faults_0 x1 x2 x3 σ = some w) : W p l e (rmm 0 0) s m args below meth c H locs 0 0 Q (F0 m 0 ls []) := by
  unfold f_X11_faults_0 at h
  refine lv_aload_n X.1 X.2.1 (dk T_X11_faults 0 rfl) rfl (lv_at hl 0 rfl) ?_
  refine gg X Y fl_X11_31 rfl rfl (dk T_X11_faults 1 rfl) ?_
  refine lv_iload_n X.1 X.2.1 (dk T_X11_faults 2 rfl) rfl (lv_at hl 1 rfl) ?_
  refine lv_iload_n X.1 X.2.1 (dk T_X11_faults 3 rfl) rfl (lv_at hl 2 rfl) ?_
  obtain ⟨g1, h⟩ := gd h
  refine gis X Y rfl (inp g1) (dk T_X11_faults 4 rfl) (fun H locs Y => ?_)
  refine lv_aload_n X.1 X.2.1 (dk T_X11_faults 5 rfl) rfl (lv_at hl 0 rfl) ?_
  refine gg X Y fl_X11_34 rfl rfl (dk T_X11_faults 6 rfl) ?_
  refine lv_iload_n X.1 X.2.1 (dk T_X11_faults 7 rfl) rfl (lv_at hl 1 rfl) ?_
  refine lv_iload_n X.1 X.2.1 (dk T_X11_faults 8 rfl) rfl (lv_at hl 3 rfl) ?_
  obtain ⟨g2, h⟩ := gd h
  refine gis X Y rfl (inp g2) (dk T_X11_faults 9 rfl) (fun H locs Y => ?_)
  refine lv_aload_n X.1 X.2.1 (dk T_X11_faults 10 rfl) rfl (lv_at hl 0 rfl) ?_
  refine lv_iload_n X.1 X.2.1 (dk T_X11_faults 11 rfl) rfl (lv_at hl 1 rfl) ?_
  refine lv_iconst (v := 1) X.1 X.2.1 (dk T_X11_faults 12 rfl) ic_1 ?_
  refine lv_iadd X.1 X.2.1 (dk T_X11_faults 13 rfl) ?_
  refine gp X Y fp_X11_359 rfl (nar_int _) (dk T_X11_faults 14 rfl) (fun H locs Y => ?_)
  obtain rfl := Option.some.inj h
  exact KR _ _ _ _ Y (dk T_X11_faults 15 rfl)
def f_X11_faults (x1 : Int32) (x2 : Int32) (x3 : Int32) (σ : St) : Option (St) := f_X11_faults_0 x1 x2 x3 σ
set_option maxHeartbeats 4000000 in
set_option maxRecDepth 100000 in
theorem c_X11_faults {l : Launch} {g : Geo} (x1 : Int32) (x2 : Int32) (x3 : Int32) (σ : St) {w : St} (h : f_X11_faults x1 x2 x3 σ = some w) : CtV l yX11_faults cX11_faults 4 none (rmm 0 0) g [.ref (g.2.2 (101)), .int (x1), .int (x2), .int (x3)] σ w := enV (by decide) rfl (Nat.le_of_ble_eq_true rfl) (fun p e s m args below meth c Q X Y ls hl KR => w_X11_faults_0 X x1 x2 x3 σ KR Y hl h)
def I_X11_refuses : List (Nat × Instr × Nat) := [(0, .aload_n 0, 1), (1, .iconst 0, 1), (2, .iconst 1, 1), (3, .aload_n 0, 1), (4, .getfield 362, 3), (7, .invokevirtual 365, 3), (10, .aload_n 0, 1), (11, .iconst 1, 1), (12, .iconst 3, 1), (13, .aload_n 0, 1), (14, .getfield 7, 3), (17, .iconst 0, 1), (18, .iaload, 1), (19, .aload_n 0, 1), (20, .getfield 7, 3), (23, .iconst 1, 1), (24, .iaload, 1), (25, .iadd, 1), (26, .invokevirtual 365, 3), (29, .aload_n 0, 1), (30, .iconst 2, 1), (31, .iload_n 1, 1), (32, .iload_n 2, 1), (33, .invokevirtual 365, 3), (36, .return_, 1)]
set_option maxRecDepth 100000 in
theorem T_X11_refuses : ∀ q ∈ I_X11_refuses, decode cX11_refuses q.1 = .ok (q.2.1, q.2.2) := by decide +kernel
def f_X11_refuses_0 (x1 : Int32) (x2 : Int32) (σ : St) : Option (St) :=
  (f_X11_faults 0 1 (σ 101 40) σ).bind fun q1 => chk (inb 0 761) (chk (inb 1 761) ((f_X11_faults 1 3 ((q1 102 (0 : Int32).toNatClampNeg) + (q1 102 (1 : Int32).toNatClampNeg)) q1).bind fun q4 => (f_X11_faults 2 x1 x2 q4).bind fun q5 => some q5))
set_option maxHeartbeats 4000000 in
set_option maxRecDepth 100000 in
theorem w_X11_refuses_0 (X : Cx g RX11 cX11_refuses 3 none p s m args meth c) (x1 : Int32) (x2 : Int32) (σ : St) {w : St} (KR : ∀ (H : Heap) (locs : List Loc) (ls : Array Slot) (pc : Nat), Wd g s w H locs → decode cX11_refuses pc = .ok (.return_, 1) → W p l e (rmm 1 23) s m args below meth c H locs 0 0 Q (F0 m pc ls [])) {H : Heap} {locs : List Loc} {ls : Array Slot} (Y : Wd g s σ H locs) (hl : lv_has ls 3 [(0, .ref (g.2.2 (101))), (1, .int (x1)), (2, .int (x2))]) (h : f_X11_refuses_0 x1 x2 σ = some w) : W p l e (rmm 1 23) s m args below meth c H locs 0 0 Q (F0 m 0 ls []) := by
  unfold f_X11_refuses_0 at h
  refine lv_aload_n X.1 X.2.1 (dk T_X11_refuses 0 rfl) rfl (lv_at hl 0 rfl) ?_
  refine lv_iconst (v := 0) X.1 X.2.1 (dk T_X11_refuses 1 rfl) ic_0 ?_
  refine lv_iconst (v := 1) X.1 X.2.1 (dk T_X11_refuses 2 rfl) ic_1 ?_
  refine lv_aload_n X.1 X.2.1 (dk T_X11_refuses 3 rfl) rfl (lv_at hl 0 rfl) ?_
  refine gg X Y fl_X11_362 rfl rfl (dk T_X11_refuses 4 rfl) ?_
  obtain ⟨q1, hq1, h⟩ := bs h
  refine gvV (rest := []) X Y (c_X11_faults 0 1 (σ 101 40) σ hq1) cb_X11_365 rfl hl.1 rfl rfl (Nat.le_of_ble_eq_true rfl) ⟨Nat.le_of_ble_eq_true rfl, Nat.le_of_ble_eq_true rfl⟩ (dk T_X11_refuses 5 rfl) (fun H locs Y => ?_)
  refine lv_aload_n X.1 X.2.1 (dk T_X11_refuses 6 rfl) rfl (lv_at hl 0 rfl) ?_
  refine lv_iconst (v := 1) X.1 X.2.1 (dk T_X11_refuses 7 rfl) ic_1 ?_
  refine lv_iconst (v := 3) X.1 X.2.1 (dk T_X11_refuses 8 rfl) ic_3 ?_
  refine lv_aload_n X.1 X.2.1 (dk T_X11_refuses 9 rfl) rfl (lv_at hl 0 rfl) ?_
  refine gg X Y fl_X11_7 rfl rfl (dk T_X11_refuses 10 rfl) ?_
  refine lv_iconst (v := 0) X.1 X.2.1 (dk T_X11_refuses 11 rfl) ic_0 ?_
  obtain ⟨g2, h⟩ := gd h
  refine gil X Y rfl (inp g2) (dk T_X11_refuses 12 rfl) ?_
  refine lv_aload_n X.1 X.2.1 (dk T_X11_refuses 13 rfl) rfl (lv_at hl 0 rfl) ?_
  refine gg X Y fl_X11_7 rfl rfl (dk T_X11_refuses 14 rfl) ?_
  refine lv_iconst (v := 1) X.1 X.2.1 (dk T_X11_refuses 15 rfl) ic_1 ?_
  obtain ⟨g3, h⟩ := gd h
  refine gil X Y rfl (inp g3) (dk T_X11_refuses 16 rfl) ?_
  refine lv_iadd X.1 X.2.1 (dk T_X11_refuses 17 rfl) ?_
  obtain ⟨q4, hq4, h⟩ := bs h
  refine gvV (rest := []) X Y (c_X11_faults 1 3 ((q1 102 (0 : Int32).toNatClampNeg) + (q1 102 (1 : Int32).toNatClampNeg)) q1 hq4) cb_X11_365 rfl hl.1 rfl rfl (Nat.le_of_ble_eq_true rfl) ⟨Nat.le_of_ble_eq_true rfl, Nat.le_of_ble_eq_true rfl⟩ (dk T_X11_refuses 18 rfl) (fun H locs Y => ?_)
  refine lv_aload_n X.1 X.2.1 (dk T_X11_refuses 19 rfl) rfl (lv_at hl 0 rfl) ?_
  refine lv_iconst (v := 2) X.1 X.2.1 (dk T_X11_refuses 20 rfl) ic_2 ?_
  refine lv_iload_n X.1 X.2.1 (dk T_X11_refuses 21 rfl) rfl (lv_at hl 1 rfl) ?_
  refine lv_iload_n X.1 X.2.1 (dk T_X11_refuses 22 rfl) rfl (lv_at hl 2 rfl) ?_
  obtain ⟨q5, hq5, h⟩ := bs h
  refine gvV (rest := []) X Y (c_X11_faults 2 x1 x2 q4 hq5) cb_X11_365 rfl hl.1 rfl rfl (Nat.le_of_ble_eq_true rfl) ⟨Nat.le_of_ble_eq_true rfl, Nat.le_of_ble_eq_true rfl⟩ (dk T_X11_refuses 23 rfl) (fun H locs Y => ?_)
  obtain rfl := Option.some.inj h
  exact KR _ _ _ _ Y (dk T_X11_refuses 24 rfl)
def f_X11_refuses (x1 : Int32) (x2 : Int32) (σ : St) : Option (St) := f_X11_refuses_0 x1 x2 σ
set_option maxHeartbeats 4000000 in
set_option maxRecDepth 100000 in
theorem c_X11_refuses {l : Launch} {g : Geo} (x1 : Int32) (x2 : Int32) (σ : St) {w : St} (h : f_X11_refuses x1 x2 σ = some w) : CtV l yX11_refuses cX11_refuses 3 none (rmm 1 23) g [.ref (g.2.2 (101)), .int (x1), .int (x2)] σ w := enV (by decide) rfl (Nat.le_of_ble_eq_true rfl) (fun p e s m args below meth c Q X Y ls hl KR => w_X11_refuses_0 X x1 x2 σ KR Y hl h)
def I_X11_field : List (Nat × Instr × Nat) := [(0, .iconst 0, 1), (1, .istore_n 1, 1), (2, .iconst 0, 1), (3, .istore_n 2, 1), (4, .iload_n 2, 1), (5, .aload_n 0, 1), (6, .getfield 331, 3), (9, .if_icmp .ge 58, 3), (12, .iconst 0, 1), (13, .istore_n 3, 1), (14, .iload_n 3, 1), (15, .aload_n 0, 1), (16, .getfield 340, 3), (19, .if_icmp .ge 42, 3), (22, .iload_n 1, 1), (23, .aload_n 0, 1), (24, .getfield 334, 3), (27, .iconst 4, 1), (28, .iload_n 2, 1), (29, .imul, 1), (30, .iload_n 3, 1), (31, .iadd, 1), (32, .invokestatic 105, 3), (35, .ifCond .eq 17, 3), (38, .iconst 1, 1), (39, .aload_n 0, 1), (40, .getfield 340, 3), (43, .iload_n 3, 1), (44, .iload_n 2, 1), (45, .invokestatic 102, 3), (48, .ishl, 1), (49, .goto 4, 3), (52, .iconst 0, 1), (53, .ior, 1), (54, .istore_n 1, 1), (55, .iinc 3 1, 3), (58, .goto (-44), 3), (61, .iinc 2 1, 3), (64, .goto (-60), 3), (67, .iload_n 1, 1), (68, .ireturn, 1)]
set_option maxRecDepth 100000 in
theorem T_X11_field : ∀ q ∈ I_X11_field, decode cX11_field q.1 = .ok (q.2.1, q.2.2) := by decide +kernel
def f_X11_field_j53 (x2 : Int32) (x3 : Int32) (s0 : Int32) (s1 : Int32) (σ : St) : Option ((Int32 × Int32) ⊕ (Int32)) :=
  some (.inl (s1 ||| s0, x3 + 1))
set_option maxHeartbeats 4000000 in
set_option maxRecDepth 100000 in
theorem w_X11_field_j53 (X : Cx g RX11 cX11_field 4 (some .int) p s m args meth c) (x2 : Int32) (x3 : Int32) (s0 : Int32) (s1 : Int32) (σ : St) {w : (Int32 × Int32) ⊕ (Int32)} (KB : ∀ (v0_ : Int32) (v1_ : Int32), w = .inl (v0_, v1_) → ∀ (H : Heap) (locs : List Loc) (ls : Array Slot), Wd g s σ H locs → lv_has ls 4 [(0, .ref (g.2.2 (101))), (1, .int (v0_)), (2, .int (x2)), (3, .int (v1_))] → W p l e (rmm 1 22) s m args below meth c H locs 0 0 Q (F0 m 14 ls [])) (KX0 : ∀ (v : Int32), w = .inr v → ∀ (H : Heap) (locs : List Loc) (ls : Array Slot), Wd g s σ H locs → lv_has ls 4 [(0, .ref (g.2.2 (101))), (1, .int (v)), (2, .int (x2))] → W p l e (rmm 1 22) s m args below meth c H locs 0 0 Q (F0 m 61 ls [])) {H : Heap} {locs : List Loc} {ls : Array Slot} (Y : Wd g s σ H locs) (hl : lv_has ls 4 [(0, .ref (g.2.2 (101))), (2, .int (x2)), (3, .int (x3))]) (h : f_X11_field_j53 x2 x3 s0 s1 σ = some w) : W p l e (rmm 1 22) s m args below meth c H locs 0 0 Q (F0 m 53 ls [.int (s0), .int (s1)]) := by
  unfold f_X11_field_j53 at h
  refine lv_ior X.1 X.2.1 (dk T_X11_field 33 rfl) ?_
  refine lv_istore_n (lv' := [(1, .int (s1 ||| s0)), (0, .ref (g.2.2 (101))), (2, .int (x2)), (3, .int (x3))]) X.1 X.2.1 (dk T_X11_field 34 rfl) rfl hl (Nat.le_of_ble_eq_true rfl) rfl (fun ls hl => ?_)
  refine lv_iinc (v := x3 + 1) (lv' := [(3, .int (x3 + 1)), (1, .int (s1 ||| s0)), (0, .ref (g.2.2 (101))), (2, .int (x2))]) X.1 X.2.1 (dk T_X11_field 35 rfl) hl (k := 3) rfl (icx ic_1) (Nat.le_of_ble_eq_true rfl) rfl (fun ls hl => ?_)
  refine lv_goto (tgt := 14) X.1 X.2.1 (dk T_X11_field 36 rfl) rfl ?_
  exact KB (s1 ||| s0) (x3 + 1) (Option.some.inj h).symm _ _ _ Y (lv_sub hl [2, 1, 3, 0] rfl)
def f_X11_field_l14 (x2 : Int32) (σ : St) (z : Int32 × Int32) : Option ((Int32 × Int32) ⊕ (Int32)) :=
  if (σ 101 44) ≤ z.2 then some (.inr z.1) else (f_X11_has (σ 101 45) ((4 * x2) + z.2)).bind fun q3 => if q3 = 0 then f_X11_field_j53 x2 z.2 0 z.1 σ else (f_X11_at (σ 101 44) z.2 x2).bind fun q5 => f_X11_field_j53 x2 z.2 ((1 : Int32) <<< (q5 &&& 31)) z.1 σ
set_option maxHeartbeats 4000000 in
set_option maxRecDepth 100000 in
theorem w_X11_field_l14 (X : Cx g RX11 cX11_field 4 (some .int) p s m args meth c) (x2 : Int32) (σ : St) {r : Int32} (KX0 : ∀ (v : Int32), r = v → ∀ (H : Heap) (locs : List Loc) (ls : Array Slot), Wd g s σ H locs → lv_has ls 4 [(0, .ref (g.2.2 (101))), (1, .int (v)), (2, .int (x2))] → W p l e (rmm 1 22) s m args below meth c H locs 0 0 Q (F0 m 61 ls [])) : ∀ (n : Nat) (z : Int32 × Int32) {H : Heap} {locs : List Loc} {ls : Array Slot}, Wd g s σ H locs → lv_has ls 4 [(0, .ref (g.2.2 (101))), (1, .int (z.1)), (2, .int (x2)), (3, .int (z.2))] → lp (f_X11_field_l14 x2 σ) n z = some r → W p l e (rmm 1 22) s m args below meth c H locs 0 0 Q (F0 m 14 ls []) := by
  intro n
  induction n with
  | zero => intro z H locs ls Y hl h; cases h
  | succ n ih =>
    intro z H locs ls Y hl h
    obtain ⟨w, h, hw⟩ := lps h
    have KB : ∀ (v0_ : Int32) (v1_ : Int32), w = .inl (v0_, v1_) → ∀ (H : Heap) (locs : List Loc) (ls : Array Slot), Wd g s σ H locs → lv_has ls 4 [(0, .ref (g.2.2 (101))), (1, .int (v0_)), (2, .int (x2)), (3, .int (v1_))] → W p l e (rmm 1 22) s m args below meth c H locs 0 0 Q (F0 m 14 ls []) := fun v0_ v1_ e H locs ls Y hl => ih (v0_, v1_) Y hl (lpl hw e)
    have KX0 := fun (v : Int32) (e : w = .inr v) => KX0 v (lpr hw e)
    unfold f_X11_field_l14 at h
    refine lv_iload_n X.1 X.2.1 (dk T_X11_field 10 rfl) rfl (lv_at hl 3 rfl) ?_
    refine lv_aload_n X.1 X.2.1 (dk T_X11_field 11 rfl) rfl (lv_at hl 0 rfl) ?_
    refine gg X Y fl_X11_340 rfl rfl (dk T_X11_field 12 rfl) ?_
    refine lv_icmp_ge (tgt := 61) X.1 X.2.1 (dk T_X11_field 13 rfl) rfl (fun c2 => ?_) (fun c2 => ?_)
    · replace h := ipos c2 h
      exact KX0 z.1 (Option.some.inj h).symm _ _ _ Y (lv_sub hl [0, 1, 2] rfl)
    · replace h := ineg c2 h
      refine lv_iload_n X.1 X.2.1 (dk T_X11_field 14 rfl) rfl (lv_at hl 1 rfl) ?_
      refine lv_aload_n X.1 X.2.1 (dk T_X11_field 15 rfl) rfl (lv_at hl 0 rfl) ?_
      refine gg X Y fl_X11_334 rfl rfl (dk T_X11_field 16 rfl) ?_
      refine lv_iconst (v := 4) X.1 X.2.1 (dk T_X11_field 17 rfl) ic_4 ?_
      refine lv_iload_n X.1 X.2.1 (dk T_X11_field 18 rfl) rfl (lv_at hl 2 rfl) ?_
      refine lv_imul X.1 X.2.1 (dk T_X11_field 19 rfl) ?_
      refine lv_iload_n X.1 X.2.1 (dk T_X11_field 20 rfl) rfl (lv_at hl 3 rfl) ?_
      refine lv_iadd X.1 X.2.1 (dk T_X11_field 21 rfl) ?_
      obtain ⟨q3, hq3, h⟩ := bs h
      refine gsI (rest := [.int (z.1)]) X Y (c_X11_has (σ 101 45) ((4 * x2) + z.2) σ hq3) cb_X11_105 hl.1 rfl rfl (Nat.le_of_ble_eq_true rfl) ⟨Nat.le_of_ble_eq_true rfl, Nat.le_of_ble_eq_true rfl⟩ (dk T_X11_field 22 rfl) (fun H locs Y => ?_)
      refine lv_if_eq (tgt := 52) X.1 X.2.1 (dk T_X11_field 23 rfl) rfl (fun c4 => ?_) (fun c4 => ?_)
      · replace h := ipos c4 h
        refine lv_iconst (v := 0) X.1 X.2.1 (dk T_X11_field 32 rfl) ic_0 ?_
        exact w_X11_field_j53 X x2 z.2 0 z.1 σ KB KX0 Y (lv_sub hl [0, 2, 3] rfl) h
      · replace h := ineg c4 h
        refine lv_iconst (v := 1) X.1 X.2.1 (dk T_X11_field 24 rfl) ic_1 ?_
        refine lv_aload_n X.1 X.2.1 (dk T_X11_field 25 rfl) rfl (lv_at hl 0 rfl) ?_
        refine gg X Y fl_X11_340 rfl rfl (dk T_X11_field 26 rfl) ?_
        refine lv_iload_n X.1 X.2.1 (dk T_X11_field 27 rfl) rfl (lv_at hl 3 rfl) ?_
        refine lv_iload_n X.1 X.2.1 (dk T_X11_field 28 rfl) rfl (lv_at hl 2 rfl) ?_
        obtain ⟨q5, hq5, h⟩ := bs h
        refine gsI (rest := [.int (1), .int (z.1)]) X Y (c_X11_at (σ 101 44) z.2 x2 σ hq5) cb_X11_102 hl.1 rfl rfl (Nat.le_of_ble_eq_true rfl) ⟨Nat.le_of_ble_eq_true rfl, Nat.le_of_ble_eq_true rfl⟩ (dk T_X11_field 29 rfl) (fun H locs Y => ?_)
        refine lv_ishl X.1 X.2.1 (dk T_X11_field 30 rfl) ?_
        refine lv_goto (tgt := 53) X.1 X.2.1 (dk T_X11_field 31 rfl) rfl ?_
        exact w_X11_field_j53 X x2 z.2 ((1 : Int32) <<< (q5 &&& 31)) z.1 σ KB KX0 Y (lv_sub hl [0, 2, 3] rfl) h
def f_X11_field_l4 (σ : St) (z : Int32 × Int32) : Option ((Int32 × Int32) ⊕ (Int32)) :=
  if (σ 101 43) ≤ z.2 then some (.inr z.1) else (lp (f_X11_field_l14 z.2 σ) FU (z.1, 0)).bind fun q6 => some (.inl (q6, z.2 + 1))
set_option maxHeartbeats 4000000 in
set_option maxRecDepth 100000 in
theorem w_X11_field_l4 (X : Cx g RX11 cX11_field 4 (some .int) p s m args meth c) (σ : St) {r : Int32} (KX0 : ∀ (v : Int32), r = v → ∀ (H : Heap) (locs : List Loc) (ls : Array Slot), Wd g s σ H locs → lv_has ls 4 [(1, .int (v))] → W p l e (rmm 1 22) s m args below meth c H locs 0 0 Q (F0 m 67 ls [])) : ∀ (n : Nat) (z : Int32 × Int32) {H : Heap} {locs : List Loc} {ls : Array Slot}, Wd g s σ H locs → lv_has ls 4 [(0, .ref (g.2.2 (101))), (1, .int (z.1)), (2, .int (z.2))] → lp (f_X11_field_l4 σ) n z = some r → W p l e (rmm 1 22) s m args below meth c H locs 0 0 Q (F0 m 4 ls []) := by
  intro n
  induction n with
  | zero => intro z H locs ls Y hl h; cases h
  | succ n ih =>
    intro z H locs ls Y hl h
    obtain ⟨w, h, hw⟩ := lps h
    have KB : ∀ (v0_ : Int32) (v1_ : Int32), w = .inl (v0_, v1_) → ∀ (H : Heap) (locs : List Loc) (ls : Array Slot), Wd g s σ H locs → lv_has ls 4 [(0, .ref (g.2.2 (101))), (1, .int (v0_)), (2, .int (v1_))] → W p l e (rmm 1 22) s m args below meth c H locs 0 0 Q (F0 m 4 ls []) := fun v0_ v1_ e H locs ls Y hl => ih (v0_, v1_) Y hl (lpl hw e)
    have KX0 := fun (v : Int32) (e : w = .inr v) => KX0 v (lpr hw e)
    unfold f_X11_field_l4 at h
    refine lv_iload_n X.1 X.2.1 (dk T_X11_field 4 rfl) rfl (lv_at hl 2 rfl) ?_
    refine lv_aload_n X.1 X.2.1 (dk T_X11_field 5 rfl) rfl (lv_at hl 0 rfl) ?_
    refine gg X Y fl_X11_331 rfl rfl (dk T_X11_field 6 rfl) ?_
    refine lv_icmp_ge (tgt := 67) X.1 X.2.1 (dk T_X11_field 7 rfl) rfl (fun c1 => ?_) (fun c1 => ?_)
    · replace h := ipos c1 h
      exact KX0 z.1 (Option.some.inj h).symm _ _ _ Y (lv_sub hl [1] rfl)
    · replace h := ineg c1 h
      refine lv_iconst (v := 0) X.1 X.2.1 (dk T_X11_field 8 rfl) ic_0 ?_
      refine lv_istore_n (lv' := [(3, .int (0)), (0, .ref (g.2.2 (101))), (1, .int (z.1)), (2, .int (z.2))]) X.1 X.2.1 (dk T_X11_field 9 rfl) rfl hl (Nat.le_of_ble_eq_true rfl) rfl (fun ls hl => ?_)
      obtain ⟨q6, hq6, h⟩ := bs h
      refine w_X11_field_l14 X z.2 σ (fun v e H locs ls Y hl => ?_) FU (z.1, 0) Y (lv_sub hl [1, 2, 3, 0] rfl) hq6
      · obtain rfl := e
        refine lv_iinc (v := z.2 + 1) (lv' := [(2, .int (z.2 + 1)), (0, .ref (g.2.2 (101))), (1, .int (q6))]) X.1 X.2.1 (dk T_X11_field 37 rfl) hl (k := 2) rfl (icx ic_1) (Nat.le_of_ble_eq_true rfl) rfl (fun ls hl => ?_)
        refine lv_goto (tgt := 4) X.1 X.2.1 (dk T_X11_field 38 rfl) rfl ?_
        exact KB q6 (z.2 + 1) (Option.some.inj h).symm _ _ _ Y (lv_sub hl [1, 2, 0] rfl)
def f_X11_field_0 (σ : St) : Option (Int32) :=
  (lp (f_X11_field_l4 σ) FU (0, 0)).bind fun q7 => some q7
set_option maxHeartbeats 4000000 in
set_option maxRecDepth 100000 in
theorem w_X11_field_0 (X : Cx g RX11 cX11_field 4 (some .int) p s m args meth c) (σ : St) {w : Int32} (KR : ∀ (H : Heap) (locs : List Loc) (ls : Array Slot) (pc : Nat), Wd g s σ H locs → decode cX11_field pc = .ok (.ireturn, 1) → W p l e (rmm 1 22) s m args below meth c H locs 0 0 Q (F0 m pc ls [.int (w)])) {H : Heap} {locs : List Loc} {ls : Array Slot} (Y : Wd g s σ H locs) (hl : lv_has ls 4 [(0, .ref (g.2.2 (101)))]) (h : f_X11_field_0 σ = some w) : W p l e (rmm 1 22) s m args below meth c H locs 0 0 Q (F0 m 0 ls []) := by
  unfold f_X11_field_0 at h
  refine lv_iconst (v := 0) X.1 X.2.1 (dk T_X11_field 0 rfl) ic_0 ?_
  refine lv_istore_n (lv' := [(1, .int (0)), (0, .ref (g.2.2 (101)))]) X.1 X.2.1 (dk T_X11_field 1 rfl) rfl hl (Nat.le_of_ble_eq_true rfl) rfl (fun ls hl => ?_)
  refine lv_iconst (v := 0) X.1 X.2.1 (dk T_X11_field 2 rfl) ic_0 ?_
  refine lv_istore_n (lv' := [(2, .int (0)), (1, .int (0)), (0, .ref (g.2.2 (101)))]) X.1 X.2.1 (dk T_X11_field 3 rfl) rfl hl (Nat.le_of_ble_eq_true rfl) rfl (fun ls hl => ?_)
  obtain ⟨q7, hq7, h⟩ := bs h
  refine w_X11_field_l4 X σ (fun v e H locs ls Y hl => ?_) FU (0, 0) Y (lv_sub hl [2, 1, 0] rfl) hq7
  · obtain rfl := e
    refine lv_iload_n X.1 X.2.1 (dk T_X11_field 39 rfl) rfl (lv_at hl 0 rfl) ?_
    obtain rfl := Option.some.inj h
    exact KR _ _ _ _ Y (dk T_X11_field 40 rfl)
def f_X11_field (σ : St) : Option (Int32) := f_X11_field_0 σ
set_option maxHeartbeats 4000000 in
set_option maxRecDepth 100000 in
theorem c_X11_field {l : Launch} {g : Geo} (σ : St) {w : Int32} (h : f_X11_field σ = some w) : CtI l yX11_field cX11_field 4 (some .int) (rmm 1 22) g [.ref (g.2.2 (101))] σ w σ := enI .int (by decide) rfl rfl (Nat.le_of_ble_eq_true rfl) (fun p e s m args below meth c Q X Y ls hl KR => w_X11_field_0 X σ KR Y hl h)
def I_X11_does : List (Nat × Instr × Nat) := [(0, .aload_n 0, 1), (1, .getfield 343, 3), (4, .bipush 115, 2), (6, .if_icmp .ne 96, 3), (9, .aload_n 0, 1), (10, .getfield 68, 3), (13, .iconst 0, 1), (14, .iaload, 1), (15, .iconst 2, 1), (16, .bipush 10, 2), (18, .invokestatic 75, 3), (21, .ifCond .ne 12, 3), (24, .aload_n 0, 1), (25, .iconst 4, 1), (26, .iconst 0, 1), (27, .invokevirtual 367, 3), (30, .goto 295, 3), (33, .aload_n 0, 1), (34, .getfield 68, 3), (37, .iconst 1, 1), (38, .iaload, 1), (39, .iconst 2, 1), (40, .bipush 10, 2), (42, .invokestatic 75, 3), (45, .ifCond .ne 12, 3), (48, .aload_n 0, 1), (49, .iconst 4, 1), (50, .iconst 1, 1), (51, .invokevirtual 367, 3), (54, .goto 271, 3), (57, .aload_n 0, 1), (58, .getfield 7, 3), (61, .iconst 0, 1), (62, .iaload, 1), (63, .bipush 6, 2), (65, .if_icmp .ne 13, 3), (68, .aload_n 0, 1), (69, .bipush 6, 2), (71, .iconst 0, 1), (72, .invokevirtual 367, 3), (75, .goto 250, 3), (78, .aload_n 0, 1), (79, .aload_n 0, 1), (80, .getfield 68, 3), (83, .iconst 0, 1), (84, .iaload, 1), (85, .aload_n 0, 1), (86, .getfield 68, 3), (89, .iconst 1, 1), (90, .iaload, 1), (91, .aload_n 0, 1), (92, .getfield 353, 3), (95, .invokevirtual 98, 3), (98, .pop, 1), (99, .goto 226, 3), (102, .aload_n 0, 1), (103, .getfield 343, 3), (106, .bipush 112, 2), (108, .if_icmp .ne 113, 3), (111, .aload_n 0, 1), (112, .getfield 68, 3), (115, .iconst 0, 1), (116, .iaload, 1), (117, .iconst 0, 1), (118, .iconst 2, 1), (119, .invokestatic 75, 3), (122, .ifCond .ne 12, 3), (125, .aload_n 0, 1), (126, .iconst 4, 1), (127, .iconst 0, 1), (128, .invokevirtual 367, 3), (131, .goto 194, 3), (134, .aload_n 0, 1), (135, .getfield 337, 3), (138, .ifCond .ne 21, 3), (141, .aload_n 0, 1), (142, .getfield 340, 3), (145, .aload_n 0, 1), (146, .getfield 331, 3), (149, .aload_n 0, 1), (150, .invokevirtual 370, 3), (153, .invokestatic 119, 3), (156, .ifCond .ne 12, 3), (159, .aload_n 0, 1), (160, .iconst 5, 1), (161, .iconst 0, 1), (162, .invokevirtual 367, 3), (165, .goto 160, 3), (168, .aload_n 0, 1), (169, .getfield 7, 3), (172, .iconst 1, 1), (173, .iaload, 1), (174, .bipush 8, 2), (176, .if_icmp .ne 13, 3), (179, .aload_n 0, 1), (180, .bipush 6, 2), (182, .iconst 0, 1), (183, .invokevirtual 367, 3), (186, .goto 139, 3), (189, .aload_n 0, 1), (190, .aload_n 0, 1), (191, .getfield 340, 3), (194, .aload_n 0, 1), (195, .getfield 331, 3), (198, .aload_n 0, 1), (199, .invokevirtual 370, 3), (202, .aload_n 0, 1), (203, .getfield 68, 3), (206, .iconst 0, 1), (207, .iaload, 1), (208, .aload_n 0, 1), (209, .getfield 68, 3), (212, .iconst 1, 1), (213, .iaload, 1), (214, .invokevirtual 122, 3), (217, .pop, 1), (218, .goto 107, 3), (221, .aload_n 0, 1), (222, .aload_n 0, 1), (223, .getfield 68, 3), (226, .iconst 0, 1), (227, .iaload, 1), (228, .invokevirtual 155, 3), (231, .ifCond .ne 11, 3), (234, .aload_n 0, 1), (235, .bipush 7, 2), (237, .iconst 0, 1), (238, .invokevirtual 367, 3), (241, .return_, 1), (242, .aload_n 0, 1), (243, .aload_n 0, 1), (244, .getfield 68, 3), (247, .iconst 0, 1), (248, .iaload, 1), (249, .invokevirtual 145, 3), (252, .aload_n 0, 1), (253, .getfield 68, 3), (256, .iconst 1, 1), (257, .iaload, 1), (258, .aload_n 0, 1), (259, .aload_n 0, 1), (260, .getfield 68, 3), (263, .iconst 0, 1), (264, .iaload, 1), (265, .invokevirtual 149, 3), (268, .if_icmp .ge 22, 3), (271, .aload_n 0, 1), (272, .aload_n 0, 1), (273, .getfield 68, 3), (276, .iconst 0, 1), (277, .iaload, 1), (278, .aload_n 0, 1), (279, .getfield 68, 3), (282, .iconst 1, 1), (283, .iaload, 1), (284, .invokevirtual 152, 3), (287, .ifCond .ne 13, 3), (290, .aload_n 0, 1), (291, .bipush 7, 2), (293, .iconst 1, 1), (294, .invokevirtual 367, 3), (297, .goto 28, 3), (300, .aload_n 0, 1), (301, .getfield 7, 3), (304, .bipush 21, 2), (306, .bipush 100, 2), (308, .aload_n 0, 1), (309, .getfield 68, 3), (312, .iconst 0, 1), (313, .iaload, 1), (314, .imul, 1), (315, .iadd, 1), (316, .aload_n 0, 1), (317, .getfield 68, 3), (320, .iconst 1, 1), (321, .iaload, 1), (322, .iadd, 1), (323, .iconst 0, 1), (324, .iastore, 1), (325, .return_, 1)]
set_option maxRecDepth 100000 in
theorem T_X11_does : ∀ q ∈ I_X11_does, decode cX11_does q.1 = .ok (q.2.1, q.2.2) := by decide +kernel
def f_X11_does_j290 (σ : St) : Option (St) :=
  (f_X11_refuses 7 1 σ).bind fun q12 => some q12
set_option maxHeartbeats 4000000 in
set_option maxRecDepth 100000 in
theorem w_X11_does_j290 (X : Cx g RX11 cX11_does 1 none p s m args meth c) (σ : St) {w : St} (KR : ∀ (H : Heap) (locs : List Loc) (ls : Array Slot) (pc : Nat), Wd g s w H locs → decode cX11_does pc = .ok (.return_, 1) → W p l e (rmm 4 95) s m args below meth c H locs 0 0 Q (F0 m pc ls [])) {H : Heap} {locs : List Loc} {ls : Array Slot} (Y : Wd g s σ H locs) (hl : lv_has ls 1 [(0, .ref (g.2.2 (101)))]) (h : f_X11_does_j290 σ = some w) : W p l e (rmm 4 95) s m args below meth c H locs 0 0 Q (F0 m 290 ls []) := by
  unfold f_X11_does_j290 at h
  refine lv_aload_n X.1 X.2.1 (dk T_X11_does 157 rfl) rfl (lv_at hl 0 rfl) ?_
  refine lv_bipush (v := 7) X.1 X.2.1 (dk T_X11_does 158 rfl) bp_7 ?_
  refine lv_iconst (v := 1) X.1 X.2.1 (dk T_X11_does 159 rfl) ic_1 ?_
  obtain ⟨q12, hq12, h⟩ := bs h
  refine gvV (rest := []) X Y (c_X11_refuses 7 1 σ hq12) cb_X11_367 rfl hl.1 rfl rfl (Nat.le_of_ble_eq_true rfl) ⟨Nat.le_of_ble_eq_true rfl, Nat.le_of_ble_eq_true rfl⟩ (dk T_X11_does 160 rfl) (fun H locs Y => ?_)
  refine lv_goto (tgt := 325) X.1 X.2.1 (dk T_X11_does 161 rfl) rfl ?_
  obtain rfl := Option.some.inj h
  exact KR _ _ _ _ Y (dk T_X11_does 179 rfl)
def f_X11_does_j159 (σ : St) : Option (St) :=
  (f_X11_refuses 5 0 σ).bind fun q25 => some q25
set_option maxHeartbeats 4000000 in
set_option maxRecDepth 100000 in
theorem w_X11_does_j159 (X : Cx g RX11 cX11_does 1 none p s m args meth c) (σ : St) {w : St} (KR : ∀ (H : Heap) (locs : List Loc) (ls : Array Slot) (pc : Nat), Wd g s w H locs → decode cX11_does pc = .ok (.return_, 1) → W p l e (rmm 4 95) s m args below meth c H locs 0 0 Q (F0 m pc ls [])) {H : Heap} {locs : List Loc} {ls : Array Slot} (Y : Wd g s σ H locs) (hl : lv_has ls 1 [(0, .ref (g.2.2 (101)))]) (h : f_X11_does_j159 σ = some w) : W p l e (rmm 4 95) s m args below meth c H locs 0 0 Q (F0 m 159 ls []) := by
  unfold f_X11_does_j159 at h
  refine lv_aload_n X.1 X.2.1 (dk T_X11_does 83 rfl) rfl (lv_at hl 0 rfl) ?_
  refine lv_iconst (v := 5) X.1 X.2.1 (dk T_X11_does 84 rfl) ic_5 ?_
  refine lv_iconst (v := 0) X.1 X.2.1 (dk T_X11_does 85 rfl) ic_0 ?_
  obtain ⟨q25, hq25, h⟩ := bs h
  refine gvV (rest := []) X Y (c_X11_refuses 5 0 σ hq25) cb_X11_367 rfl hl.1 rfl rfl (Nat.le_of_ble_eq_true rfl) ⟨Nat.le_of_ble_eq_true rfl, Nat.le_of_ble_eq_true rfl⟩ (dk T_X11_does 86 rfl) (fun H locs Y => ?_)
  refine lv_goto (tgt := 325) X.1 X.2.1 (dk T_X11_does 87 rfl) rfl ?_
  obtain rfl := Option.some.inj h
  exact KR _ _ _ _ Y (dk T_X11_does 179 rfl)
def f_X11_does_0 (σ : St) : Option (St) :=
  if (σ 101 41) = 115 then chk (inb 0 2) ((f_X11_in (σ 121 (0 : Int32).toNatClampNeg) 2 10).bind fun q38 => if q38 = 0 then (f_X11_refuses 4 0 σ).bind fun q50 => some q50 else chk (inb 1 2) ((f_X11_in (σ 121 (1 : Int32).toNatClampNeg) 2 10).bind fun q41 => if q41 = 0 then (f_X11_refuses 4 1 σ).bind fun q49 => some q49 else chk (inb 0 761) (if (σ 102 (0 : Int32).toNatClampNeg) = 6 then (f_X11_refuses 6 0 σ).bind fun q48 => some q48 else chk (inb 0 2) (chk (inb 1 2) ((f_X11_makesSheet (σ 121 (0 : Int32).toNatClampNeg) (σ 121 (1 : Int32).toNatClampNeg) (σ 101 42) σ).bind fun q47 => some q47.2))))) else if (σ 101 41) = 112 then chk (inb 0 2) ((f_X11_in (σ 121 (0 : Int32).toNatClampNeg) 0 2).bind fun q22 => if q22 = 0 then (f_X11_refuses 4 0 σ).bind fun q36 => some q36 else if (σ 101 46) = 0 then (f_X11_field σ).bind fun q26 => (f_X11_isField (σ 101 44) (σ 101 43) q26).bind fun q27 => if q27 = 0 then f_X11_does_j159 σ else chk (inb 1 761) (if (σ 102 (1 : Int32).toNatClampNeg) = 8 then (f_X11_refuses 6 0 σ).bind fun q35 => some q35 else (f_X11_field σ).bind fun q31 => chk (inb 0 2) (chk (inb 1 2) ((f_X11_makesShape (σ 101 44) (σ 101 43) q31 (σ 121 (0 : Int32).toNatClampNeg) (σ 121 (1 : Int32).toNatClampNeg) σ).bind fun q34 => some q34.2))) else f_X11_does_j159 σ) else chk (inb 0 2) ((f_X11_isSheet (σ 121 (0 : Int32).toNatClampNeg) σ).bind fun q4 => if q4 = 0 then (f_X11_refuses 7 0 σ).bind fun q20 => some q20 else chk (inb 0 2) ((f_X11_looks (σ 121 (0 : Int32).toNatClampNeg) σ).bind fun q7 => chk (inb 1 2) (chk (inb 0 2) ((f_X11_cells (q7 121 (0 : Int32).toNatClampNeg) q7).bind fun q10 => if q10 ≤ (q7 121 (1 : Int32).toNatClampNeg) then f_X11_does_j290 q7 else chk (inb 0 2) (chk (inb 1 2) ((f_X11_isFree (q7 121 (0 : Int32).toNatClampNeg) (q7 121 (1 : Int32).toNatClampNeg) q7).bind fun q15 => if q15 = 0 then f_X11_does_j290 q7 else chk (inb 0 2) (chk (inb 1 2) (chk (inb ((21 + (100 * (q7 121 (0 : Int32).toNatClampNeg))) + (q7 121 (1 : Int32).toNatClampNeg)) 761) (some (up q7 102 ((21 + (100 * (q7 121 (0 : Int32).toNatClampNeg))) + (q7 121 (1 : Int32).toNatClampNeg)).toNatClampNeg 0))))))))))
set_option maxHeartbeats 4000000 in
set_option maxRecDepth 100000 in
theorem w_X11_does_0 (X : Cx g RX11 cX11_does 1 none p s m args meth c) (σ : St) {w : St} (KR : ∀ (H : Heap) (locs : List Loc) (ls : Array Slot) (pc : Nat), Wd g s w H locs → decode cX11_does pc = .ok (.return_, 1) → W p l e (rmm 4 95) s m args below meth c H locs 0 0 Q (F0 m pc ls [])) {H : Heap} {locs : List Loc} {ls : Array Slot} (Y : Wd g s σ H locs) (hl : lv_has ls 1 [(0, .ref (g.2.2 (101)))]) (h : f_X11_does_0 σ = some w) : W p l e (rmm 4 95) s m args below meth c H locs 0 0 Q (F0 m 0 ls []) := by
  unfold f_X11_does_0 at h
  refine lv_aload_n X.1 X.2.1 (dk T_X11_does 0 rfl) rfl (lv_at hl 0 rfl) ?_
  refine gg X Y fl_X11_343 rfl rfl (dk T_X11_does 1 rfl) ?_
  refine lv_bipush (v := 115) X.1 X.2.1 (dk T_X11_does 2 rfl) bp_115 ?_
  refine lv_icmp_ne (tgt := 102) X.1 X.2.1 (dk T_X11_does 3 rfl) rfl (fun c1 => ?_) (fun c1 => ?_)
  · replace h := ineg c1 h
    refine lv_aload_n X.1 X.2.1 (dk T_X11_does 55 rfl) rfl (lv_at hl 0 rfl) ?_
    refine gg X Y fl_X11_343 rfl rfl (dk T_X11_does 56 rfl) ?_
    refine lv_bipush (v := 112) X.1 X.2.1 (dk T_X11_does 57 rfl) bp_112 ?_
    refine lv_icmp_ne (tgt := 221) X.1 X.2.1 (dk T_X11_does 58 rfl) rfl (fun c2 => ?_) (fun c2 => ?_)
    · replace h := ineg c2 h
      refine lv_aload_n X.1 X.2.1 (dk T_X11_does 117 rfl) rfl (lv_at hl 0 rfl) ?_
      refine lv_aload_n X.1 X.2.1 (dk T_X11_does 118 rfl) rfl (lv_at hl 0 rfl) ?_
      refine gg X Y fl_X11_68 rfl rfl (dk T_X11_does 119 rfl) ?_
      refine lv_iconst (v := 0) X.1 X.2.1 (dk T_X11_does 120 rfl) ic_0 ?_
      obtain ⟨g3, h⟩ := gd h
      refine gil X Y rfl (inp g3) (dk T_X11_does 121 rfl) ?_
      obtain ⟨q4, hq4, h⟩ := bs h
      refine gvI (rest := []) X Y (c_X11_isSheet (σ 121 (0 : Int32).toNatClampNeg) σ hq4) cb_X11_155 rfl hl.1 rfl rfl (Nat.le_of_ble_eq_true rfl) ⟨Nat.le_of_ble_eq_true rfl, Nat.le_of_ble_eq_true rfl⟩ (dk T_X11_does 122 rfl) (fun H locs Y => ?_)
      refine lv_if_ne (tgt := 242) X.1 X.2.1 (dk T_X11_does 123 rfl) rfl (fun c5 => ?_) (fun c5 => ?_)
      · replace h := ineg c5 h
        refine lv_aload_n X.1 X.2.1 (dk T_X11_does 129 rfl) rfl (lv_at hl 0 rfl) ?_
        refine lv_aload_n X.1 X.2.1 (dk T_X11_does 130 rfl) rfl (lv_at hl 0 rfl) ?_
        refine gg X Y fl_X11_68 rfl rfl (dk T_X11_does 131 rfl) ?_
        refine lv_iconst (v := 0) X.1 X.2.1 (dk T_X11_does 132 rfl) ic_0 ?_
        obtain ⟨g6, h⟩ := gd h
        refine gil X Y rfl (inp g6) (dk T_X11_does 133 rfl) ?_
        obtain ⟨q7, hq7, h⟩ := bs h
        refine gvV (rest := []) X Y (c_X11_looks (σ 121 (0 : Int32).toNatClampNeg) σ hq7) cb_X11_145 rfl hl.1 rfl rfl (Nat.le_of_ble_eq_true rfl) ⟨Nat.le_of_ble_eq_true rfl, Nat.le_of_ble_eq_true rfl⟩ (dk T_X11_does 134 rfl) (fun H locs Y => ?_)
        refine lv_aload_n X.1 X.2.1 (dk T_X11_does 135 rfl) rfl (lv_at hl 0 rfl) ?_
        refine gg X Y fl_X11_68 rfl rfl (dk T_X11_does 136 rfl) ?_
        refine lv_iconst (v := 1) X.1 X.2.1 (dk T_X11_does 137 rfl) ic_1 ?_
        obtain ⟨g8, h⟩ := gd h
        refine gil X Y rfl (inp g8) (dk T_X11_does 138 rfl) ?_
        refine lv_aload_n X.1 X.2.1 (dk T_X11_does 139 rfl) rfl (lv_at hl 0 rfl) ?_
        refine lv_aload_n X.1 X.2.1 (dk T_X11_does 140 rfl) rfl (lv_at hl 0 rfl) ?_
        refine gg X Y fl_X11_68 rfl rfl (dk T_X11_does 141 rfl) ?_
        refine lv_iconst (v := 0) X.1 X.2.1 (dk T_X11_does 142 rfl) ic_0 ?_
        obtain ⟨g9, h⟩ := gd h
        refine gil X Y rfl (inp g9) (dk T_X11_does 143 rfl) ?_
        obtain ⟨q10, hq10, h⟩ := bs h
        refine gvI (rest := [.int (q7 121 (1 : Int32).toNatClampNeg)]) X Y (c_X11_cells (q7 121 (0 : Int32).toNatClampNeg) q7 hq10) cb_X11_149 rfl hl.1 rfl rfl (Nat.le_of_ble_eq_true rfl) ⟨Nat.le_of_ble_eq_true rfl, Nat.le_of_ble_eq_true rfl⟩ (dk T_X11_does 144 rfl) (fun H locs Y => ?_)
        refine lv_icmp_ge (tgt := 290) X.1 X.2.1 (dk T_X11_does 145 rfl) rfl (fun c11 => ?_) (fun c11 => ?_)
        · replace h := ipos c11 h
          exact w_X11_does_j290 X q7 KR Y (lv_sub hl [0] rfl) h
        · replace h := ineg c11 h
          refine lv_aload_n X.1 X.2.1 (dk T_X11_does 146 rfl) rfl (lv_at hl 0 rfl) ?_
          refine lv_aload_n X.1 X.2.1 (dk T_X11_does 147 rfl) rfl (lv_at hl 0 rfl) ?_
          refine gg X Y fl_X11_68 rfl rfl (dk T_X11_does 148 rfl) ?_
          refine lv_iconst (v := 0) X.1 X.2.1 (dk T_X11_does 149 rfl) ic_0 ?_
          obtain ⟨g13, h⟩ := gd h
          refine gil X Y rfl (inp g13) (dk T_X11_does 150 rfl) ?_
          refine lv_aload_n X.1 X.2.1 (dk T_X11_does 151 rfl) rfl (lv_at hl 0 rfl) ?_
          refine gg X Y fl_X11_68 rfl rfl (dk T_X11_does 152 rfl) ?_
          refine lv_iconst (v := 1) X.1 X.2.1 (dk T_X11_does 153 rfl) ic_1 ?_
          obtain ⟨g14, h⟩ := gd h
          refine gil X Y rfl (inp g14) (dk T_X11_does 154 rfl) ?_
          obtain ⟨q15, hq15, h⟩ := bs h
          refine gvI (rest := []) X Y (c_X11_isFree (q7 121 (0 : Int32).toNatClampNeg) (q7 121 (1 : Int32).toNatClampNeg) q7 hq15) cb_X11_152 rfl hl.1 rfl rfl (Nat.le_of_ble_eq_true rfl) ⟨Nat.le_of_ble_eq_true rfl, Nat.le_of_ble_eq_true rfl⟩ (dk T_X11_does 155 rfl) (fun H locs Y => ?_)
          refine lv_if_ne (tgt := 300) X.1 X.2.1 (dk T_X11_does 156 rfl) rfl (fun c16 => ?_) (fun c16 => ?_)
          · replace h := ineg c16 h
            refine lv_aload_n X.1 X.2.1 (dk T_X11_does 162 rfl) rfl (lv_at hl 0 rfl) ?_
            refine gg X Y fl_X11_7 rfl rfl (dk T_X11_does 163 rfl) ?_
            refine lv_bipush (v := 21) X.1 X.2.1 (dk T_X11_does 164 rfl) bp_21 ?_
            refine lv_bipush (v := 100) X.1 X.2.1 (dk T_X11_does 165 rfl) bp_100 ?_
            refine lv_aload_n X.1 X.2.1 (dk T_X11_does 166 rfl) rfl (lv_at hl 0 rfl) ?_
            refine gg X Y fl_X11_68 rfl rfl (dk T_X11_does 167 rfl) ?_
            refine lv_iconst (v := 0) X.1 X.2.1 (dk T_X11_does 168 rfl) ic_0 ?_
            obtain ⟨g17, h⟩ := gd h
            refine gil X Y rfl (inp g17) (dk T_X11_does 169 rfl) ?_
            refine lv_imul X.1 X.2.1 (dk T_X11_does 170 rfl) ?_
            refine lv_iadd X.1 X.2.1 (dk T_X11_does 171 rfl) ?_
            refine lv_aload_n X.1 X.2.1 (dk T_X11_does 172 rfl) rfl (lv_at hl 0 rfl) ?_
            refine gg X Y fl_X11_68 rfl rfl (dk T_X11_does 173 rfl) ?_
            refine lv_iconst (v := 1) X.1 X.2.1 (dk T_X11_does 174 rfl) ic_1 ?_
            obtain ⟨g18, h⟩ := gd h
            refine gil X Y rfl (inp g18) (dk T_X11_does 175 rfl) ?_
            refine lv_iadd X.1 X.2.1 (dk T_X11_does 176 rfl) ?_
            refine lv_iconst (v := 0) X.1 X.2.1 (dk T_X11_does 177 rfl) ic_0 ?_
            obtain ⟨g19, h⟩ := gd h
            refine gis X Y rfl (inp g19) (dk T_X11_does 178 rfl) (fun H locs Y => ?_)
            obtain rfl := Option.some.inj h
            exact KR _ _ _ _ Y (dk T_X11_does 179 rfl)
          · replace h := ipos c16 h
            exact w_X11_does_j290 X q7 KR Y (lv_sub hl [0] rfl) h
      · replace h := ipos c5 h
        refine lv_aload_n X.1 X.2.1 (dk T_X11_does 124 rfl) rfl (lv_at hl 0 rfl) ?_
        refine lv_bipush (v := 7) X.1 X.2.1 (dk T_X11_does 125 rfl) bp_7 ?_
        refine lv_iconst (v := 0) X.1 X.2.1 (dk T_X11_does 126 rfl) ic_0 ?_
        obtain ⟨q20, hq20, h⟩ := bs h
        refine gvV (rest := []) X Y (c_X11_refuses 7 0 σ hq20) cb_X11_367 rfl hl.1 rfl rfl (Nat.le_of_ble_eq_true rfl) ⟨Nat.le_of_ble_eq_true rfl, Nat.le_of_ble_eq_true rfl⟩ (dk T_X11_does 127 rfl) (fun H locs Y => ?_)
        obtain rfl := Option.some.inj h
        exact KR _ _ _ _ Y (dk T_X11_does 128 rfl)
    · replace h := ipos c2 h
      refine lv_aload_n X.1 X.2.1 (dk T_X11_does 59 rfl) rfl (lv_at hl 0 rfl) ?_
      refine gg X Y fl_X11_68 rfl rfl (dk T_X11_does 60 rfl) ?_
      refine lv_iconst (v := 0) X.1 X.2.1 (dk T_X11_does 61 rfl) ic_0 ?_
      obtain ⟨g21, h⟩ := gd h
      refine gil X Y rfl (inp g21) (dk T_X11_does 62 rfl) ?_
      refine lv_iconst (v := 0) X.1 X.2.1 (dk T_X11_does 63 rfl) ic_0 ?_
      refine lv_iconst (v := 2) X.1 X.2.1 (dk T_X11_does 64 rfl) ic_2 ?_
      obtain ⟨q22, hq22, h⟩ := bs h
      refine gsI (rest := []) X Y (c_X11_in (σ 121 (0 : Int32).toNatClampNeg) 0 2 σ hq22) cb_X11_75 hl.1 rfl rfl (Nat.le_of_ble_eq_true rfl) ⟨Nat.le_of_ble_eq_true rfl, Nat.le_of_ble_eq_true rfl⟩ (dk T_X11_does 65 rfl) (fun H locs Y => ?_)
      refine lv_if_ne (tgt := 134) X.1 X.2.1 (dk T_X11_does 66 rfl) rfl (fun c23 => ?_) (fun c23 => ?_)
      · replace h := ineg c23 h
        refine lv_aload_n X.1 X.2.1 (dk T_X11_does 72 rfl) rfl (lv_at hl 0 rfl) ?_
        refine gg X Y fl_X11_337 rfl rfl (dk T_X11_does 73 rfl) ?_
        refine lv_if_ne (tgt := 159) X.1 X.2.1 (dk T_X11_does 74 rfl) rfl (fun c24 => ?_) (fun c24 => ?_)
        · replace h := ineg c24 h
          exact w_X11_does_j159 X σ KR Y (lv_sub hl [0] rfl) h
        · replace h := ipos c24 h
          refine lv_aload_n X.1 X.2.1 (dk T_X11_does 75 rfl) rfl (lv_at hl 0 rfl) ?_
          refine gg X Y fl_X11_340 rfl rfl (dk T_X11_does 76 rfl) ?_
          refine lv_aload_n X.1 X.2.1 (dk T_X11_does 77 rfl) rfl (lv_at hl 0 rfl) ?_
          refine gg X Y fl_X11_331 rfl rfl (dk T_X11_does 78 rfl) ?_
          refine lv_aload_n X.1 X.2.1 (dk T_X11_does 79 rfl) rfl (lv_at hl 0 rfl) ?_
          obtain ⟨q26, hq26, h⟩ := bs h
          refine gvI (rest := [.int (σ 101 43), .int (σ 101 44)]) X Y (c_X11_field σ hq26) cb_X11_370 rfl hl.1 rfl rfl (Nat.le_of_ble_eq_true rfl) ⟨Nat.le_of_ble_eq_true rfl, Nat.le_of_ble_eq_true rfl⟩ (dk T_X11_does 80 rfl) (fun H locs Y => ?_)
          obtain ⟨q27, hq27, h⟩ := bs h
          refine gsI (rest := []) X Y (c_X11_isField (σ 101 44) (σ 101 43) q26 σ hq27) cb_X11_119 hl.1 rfl rfl (Nat.le_of_ble_eq_true rfl) ⟨Nat.le_of_ble_eq_true rfl, Nat.le_of_ble_eq_true rfl⟩ (dk T_X11_does 81 rfl) (fun H locs Y => ?_)
          refine lv_if_ne (tgt := 168) X.1 X.2.1 (dk T_X11_does 82 rfl) rfl (fun c28 => ?_) (fun c28 => ?_)
          · replace h := ineg c28 h
            refine lv_aload_n X.1 X.2.1 (dk T_X11_does 88 rfl) rfl (lv_at hl 0 rfl) ?_
            refine gg X Y fl_X11_7 rfl rfl (dk T_X11_does 89 rfl) ?_
            refine lv_iconst (v := 1) X.1 X.2.1 (dk T_X11_does 90 rfl) ic_1 ?_
            obtain ⟨g29, h⟩ := gd h
            refine gil X Y rfl (inp g29) (dk T_X11_does 91 rfl) ?_
            refine lv_bipush (v := 8) X.1 X.2.1 (dk T_X11_does 92 rfl) bp_8 ?_
            refine lv_icmp_ne (tgt := 189) X.1 X.2.1 (dk T_X11_does 93 rfl) rfl (fun c30 => ?_) (fun c30 => ?_)
            · replace h := ineg c30 h
              refine lv_aload_n X.1 X.2.1 (dk T_X11_does 99 rfl) rfl (lv_at hl 0 rfl) ?_
              refine lv_aload_n X.1 X.2.1 (dk T_X11_does 100 rfl) rfl (lv_at hl 0 rfl) ?_
              refine gg X Y fl_X11_340 rfl rfl (dk T_X11_does 101 rfl) ?_
              refine lv_aload_n X.1 X.2.1 (dk T_X11_does 102 rfl) rfl (lv_at hl 0 rfl) ?_
              refine gg X Y fl_X11_331 rfl rfl (dk T_X11_does 103 rfl) ?_
              refine lv_aload_n X.1 X.2.1 (dk T_X11_does 104 rfl) rfl (lv_at hl 0 rfl) ?_
              obtain ⟨q31, hq31, h⟩ := bs h
              refine gvI (rest := [.int (σ 101 43), .int (σ 101 44), .ref (g.2.2 (101))]) X Y (c_X11_field σ hq31) cb_X11_370 rfl hl.1 rfl rfl (Nat.le_of_ble_eq_true rfl) ⟨Nat.le_of_ble_eq_true rfl, Nat.le_of_ble_eq_true rfl⟩ (dk T_X11_does 105 rfl) (fun H locs Y => ?_)
              refine lv_aload_n X.1 X.2.1 (dk T_X11_does 106 rfl) rfl (lv_at hl 0 rfl) ?_
              refine gg X Y fl_X11_68 rfl rfl (dk T_X11_does 107 rfl) ?_
              refine lv_iconst (v := 0) X.1 X.2.1 (dk T_X11_does 108 rfl) ic_0 ?_
              obtain ⟨g32, h⟩ := gd h
              refine gil X Y rfl (inp g32) (dk T_X11_does 109 rfl) ?_
              refine lv_aload_n X.1 X.2.1 (dk T_X11_does 110 rfl) rfl (lv_at hl 0 rfl) ?_
              refine gg X Y fl_X11_68 rfl rfl (dk T_X11_does 111 rfl) ?_
              refine lv_iconst (v := 1) X.1 X.2.1 (dk T_X11_does 112 rfl) ic_1 ?_
              obtain ⟨g33, h⟩ := gd h
              refine gil X Y rfl (inp g33) (dk T_X11_does 113 rfl) ?_
              obtain ⟨q34, hq34, h⟩ := bs h
              refine gvI (rest := []) X Y (c_X11_makesShape (σ 101 44) (σ 101 43) q31 (σ 121 (0 : Int32).toNatClampNeg) (σ 121 (1 : Int32).toNatClampNeg) σ hq34) cb_X11_122 rfl hl.1 rfl rfl (Nat.le_of_ble_eq_true rfl) ⟨Nat.le_of_ble_eq_true rfl, Nat.le_of_ble_eq_true rfl⟩ (dk T_X11_does 114 rfl) (fun H locs Y => ?_)
              refine lv_pop X.1 X.2.1 (dk T_X11_does 115 rfl) rfl ?_
              refine lv_goto (tgt := 325) X.1 X.2.1 (dk T_X11_does 116 rfl) rfl ?_
              obtain rfl := Option.some.inj h
              exact KR _ _ _ _ Y (dk T_X11_does 179 rfl)
            · replace h := ipos c30 h
              refine lv_aload_n X.1 X.2.1 (dk T_X11_does 94 rfl) rfl (lv_at hl 0 rfl) ?_
              refine lv_bipush (v := 6) X.1 X.2.1 (dk T_X11_does 95 rfl) bp_6 ?_
              refine lv_iconst (v := 0) X.1 X.2.1 (dk T_X11_does 96 rfl) ic_0 ?_
              obtain ⟨q35, hq35, h⟩ := bs h
              refine gvV (rest := []) X Y (c_X11_refuses 6 0 σ hq35) cb_X11_367 rfl hl.1 rfl rfl (Nat.le_of_ble_eq_true rfl) ⟨Nat.le_of_ble_eq_true rfl, Nat.le_of_ble_eq_true rfl⟩ (dk T_X11_does 97 rfl) (fun H locs Y => ?_)
              refine lv_goto (tgt := 325) X.1 X.2.1 (dk T_X11_does 98 rfl) rfl ?_
              obtain rfl := Option.some.inj h
              exact KR _ _ _ _ Y (dk T_X11_does 179 rfl)
          · replace h := ipos c28 h
            exact w_X11_does_j159 X σ KR Y (lv_sub hl [0] rfl) h
      · replace h := ipos c23 h
        refine lv_aload_n X.1 X.2.1 (dk T_X11_does 67 rfl) rfl (lv_at hl 0 rfl) ?_
        refine lv_iconst (v := 4) X.1 X.2.1 (dk T_X11_does 68 rfl) ic_4 ?_
        refine lv_iconst (v := 0) X.1 X.2.1 (dk T_X11_does 69 rfl) ic_0 ?_
        obtain ⟨q36, hq36, h⟩ := bs h
        refine gvV (rest := []) X Y (c_X11_refuses 4 0 σ hq36) cb_X11_367 rfl hl.1 rfl rfl (Nat.le_of_ble_eq_true rfl) ⟨Nat.le_of_ble_eq_true rfl, Nat.le_of_ble_eq_true rfl⟩ (dk T_X11_does 70 rfl) (fun H locs Y => ?_)
        refine lv_goto (tgt := 325) X.1 X.2.1 (dk T_X11_does 71 rfl) rfl ?_
        obtain rfl := Option.some.inj h
        exact KR _ _ _ _ Y (dk T_X11_does 179 rfl)
  · replace h := ipos c1 h
    refine lv_aload_n X.1 X.2.1 (dk T_X11_does 4 rfl) rfl (lv_at hl 0 rfl) ?_
    refine gg X Y fl_X11_68 rfl rfl (dk T_X11_does 5 rfl) ?_
    refine lv_iconst (v := 0) X.1 X.2.1 (dk T_X11_does 6 rfl) ic_0 ?_
    obtain ⟨g37, h⟩ := gd h
    refine gil X Y rfl (inp g37) (dk T_X11_does 7 rfl) ?_
    refine lv_iconst (v := 2) X.1 X.2.1 (dk T_X11_does 8 rfl) ic_2 ?_
    refine lv_bipush (v := 10) X.1 X.2.1 (dk T_X11_does 9 rfl) bp_10 ?_
    obtain ⟨q38, hq38, h⟩ := bs h
    refine gsI (rest := []) X Y (c_X11_in (σ 121 (0 : Int32).toNatClampNeg) 2 10 σ hq38) cb_X11_75 hl.1 rfl rfl (Nat.le_of_ble_eq_true rfl) ⟨Nat.le_of_ble_eq_true rfl, Nat.le_of_ble_eq_true rfl⟩ (dk T_X11_does 10 rfl) (fun H locs Y => ?_)
    refine lv_if_ne (tgt := 33) X.1 X.2.1 (dk T_X11_does 11 rfl) rfl (fun c39 => ?_) (fun c39 => ?_)
    · replace h := ineg c39 h
      refine lv_aload_n X.1 X.2.1 (dk T_X11_does 17 rfl) rfl (lv_at hl 0 rfl) ?_
      refine gg X Y fl_X11_68 rfl rfl (dk T_X11_does 18 rfl) ?_
      refine lv_iconst (v := 1) X.1 X.2.1 (dk T_X11_does 19 rfl) ic_1 ?_
      obtain ⟨g40, h⟩ := gd h
      refine gil X Y rfl (inp g40) (dk T_X11_does 20 rfl) ?_
      refine lv_iconst (v := 2) X.1 X.2.1 (dk T_X11_does 21 rfl) ic_2 ?_
      refine lv_bipush (v := 10) X.1 X.2.1 (dk T_X11_does 22 rfl) bp_10 ?_
      obtain ⟨q41, hq41, h⟩ := bs h
      refine gsI (rest := []) X Y (c_X11_in (σ 121 (1 : Int32).toNatClampNeg) 2 10 σ hq41) cb_X11_75 hl.1 rfl rfl (Nat.le_of_ble_eq_true rfl) ⟨Nat.le_of_ble_eq_true rfl, Nat.le_of_ble_eq_true rfl⟩ (dk T_X11_does 23 rfl) (fun H locs Y => ?_)
      refine lv_if_ne (tgt := 57) X.1 X.2.1 (dk T_X11_does 24 rfl) rfl (fun c42 => ?_) (fun c42 => ?_)
      · replace h := ineg c42 h
        refine lv_aload_n X.1 X.2.1 (dk T_X11_does 30 rfl) rfl (lv_at hl 0 rfl) ?_
        refine gg X Y fl_X11_7 rfl rfl (dk T_X11_does 31 rfl) ?_
        refine lv_iconst (v := 0) X.1 X.2.1 (dk T_X11_does 32 rfl) ic_0 ?_
        obtain ⟨g43, h⟩ := gd h
        refine gil X Y rfl (inp g43) (dk T_X11_does 33 rfl) ?_
        refine lv_bipush (v := 6) X.1 X.2.1 (dk T_X11_does 34 rfl) bp_6 ?_
        refine lv_icmp_ne (tgt := 78) X.1 X.2.1 (dk T_X11_does 35 rfl) rfl (fun c44 => ?_) (fun c44 => ?_)
        · replace h := ineg c44 h
          refine lv_aload_n X.1 X.2.1 (dk T_X11_does 41 rfl) rfl (lv_at hl 0 rfl) ?_
          refine lv_aload_n X.1 X.2.1 (dk T_X11_does 42 rfl) rfl (lv_at hl 0 rfl) ?_
          refine gg X Y fl_X11_68 rfl rfl (dk T_X11_does 43 rfl) ?_
          refine lv_iconst (v := 0) X.1 X.2.1 (dk T_X11_does 44 rfl) ic_0 ?_
          obtain ⟨g45, h⟩ := gd h
          refine gil X Y rfl (inp g45) (dk T_X11_does 45 rfl) ?_
          refine lv_aload_n X.1 X.2.1 (dk T_X11_does 46 rfl) rfl (lv_at hl 0 rfl) ?_
          refine gg X Y fl_X11_68 rfl rfl (dk T_X11_does 47 rfl) ?_
          refine lv_iconst (v := 1) X.1 X.2.1 (dk T_X11_does 48 rfl) ic_1 ?_
          obtain ⟨g46, h⟩ := gd h
          refine gil X Y rfl (inp g46) (dk T_X11_does 49 rfl) ?_
          refine lv_aload_n X.1 X.2.1 (dk T_X11_does 50 rfl) rfl (lv_at hl 0 rfl) ?_
          refine gg X Y fl_X11_353 rfl rfl (dk T_X11_does 51 rfl) ?_
          obtain ⟨q47, hq47, h⟩ := bs h
          refine gvI (rest := []) X Y (c_X11_makesSheet (σ 121 (0 : Int32).toNatClampNeg) (σ 121 (1 : Int32).toNatClampNeg) (σ 101 42) σ hq47) cb_X11_98 rfl hl.1 rfl rfl (Nat.le_of_ble_eq_true rfl) ⟨Nat.le_of_ble_eq_true rfl, Nat.le_of_ble_eq_true rfl⟩ (dk T_X11_does 52 rfl) (fun H locs Y => ?_)
          refine lv_pop X.1 X.2.1 (dk T_X11_does 53 rfl) rfl ?_
          refine lv_goto (tgt := 325) X.1 X.2.1 (dk T_X11_does 54 rfl) rfl ?_
          obtain rfl := Option.some.inj h
          exact KR _ _ _ _ Y (dk T_X11_does 179 rfl)
        · replace h := ipos c44 h
          refine lv_aload_n X.1 X.2.1 (dk T_X11_does 36 rfl) rfl (lv_at hl 0 rfl) ?_
          refine lv_bipush (v := 6) X.1 X.2.1 (dk T_X11_does 37 rfl) bp_6 ?_
          refine lv_iconst (v := 0) X.1 X.2.1 (dk T_X11_does 38 rfl) ic_0 ?_
          obtain ⟨q48, hq48, h⟩ := bs h
          refine gvV (rest := []) X Y (c_X11_refuses 6 0 σ hq48) cb_X11_367 rfl hl.1 rfl rfl (Nat.le_of_ble_eq_true rfl) ⟨Nat.le_of_ble_eq_true rfl, Nat.le_of_ble_eq_true rfl⟩ (dk T_X11_does 39 rfl) (fun H locs Y => ?_)
          refine lv_goto (tgt := 325) X.1 X.2.1 (dk T_X11_does 40 rfl) rfl ?_
          obtain rfl := Option.some.inj h
          exact KR _ _ _ _ Y (dk T_X11_does 179 rfl)
      · replace h := ipos c42 h
        refine lv_aload_n X.1 X.2.1 (dk T_X11_does 25 rfl) rfl (lv_at hl 0 rfl) ?_
        refine lv_iconst (v := 4) X.1 X.2.1 (dk T_X11_does 26 rfl) ic_4 ?_
        refine lv_iconst (v := 1) X.1 X.2.1 (dk T_X11_does 27 rfl) ic_1 ?_
        obtain ⟨q49, hq49, h⟩ := bs h
        refine gvV (rest := []) X Y (c_X11_refuses 4 1 σ hq49) cb_X11_367 rfl hl.1 rfl rfl (Nat.le_of_ble_eq_true rfl) ⟨Nat.le_of_ble_eq_true rfl, Nat.le_of_ble_eq_true rfl⟩ (dk T_X11_does 28 rfl) (fun H locs Y => ?_)
        refine lv_goto (tgt := 325) X.1 X.2.1 (dk T_X11_does 29 rfl) rfl ?_
        obtain rfl := Option.some.inj h
        exact KR _ _ _ _ Y (dk T_X11_does 179 rfl)
    · replace h := ipos c39 h
      refine lv_aload_n X.1 X.2.1 (dk T_X11_does 12 rfl) rfl (lv_at hl 0 rfl) ?_
      refine lv_iconst (v := 4) X.1 X.2.1 (dk T_X11_does 13 rfl) ic_4 ?_
      refine lv_iconst (v := 0) X.1 X.2.1 (dk T_X11_does 14 rfl) ic_0 ?_
      obtain ⟨q50, hq50, h⟩ := bs h
      refine gvV (rest := []) X Y (c_X11_refuses 4 0 σ hq50) cb_X11_367 rfl hl.1 rfl rfl (Nat.le_of_ble_eq_true rfl) ⟨Nat.le_of_ble_eq_true rfl, Nat.le_of_ble_eq_true rfl⟩ (dk T_X11_does 15 rfl) (fun H locs Y => ?_)
      refine lv_goto (tgt := 325) X.1 X.2.1 (dk T_X11_does 16 rfl) rfl ?_
      obtain rfl := Option.some.inj h
      exact KR _ _ _ _ Y (dk T_X11_does 179 rfl)
def f_X11_does (σ : St) : Option (St) := f_X11_does_0 σ
set_option maxHeartbeats 4000000 in
set_option maxRecDepth 100000 in
theorem c_X11_does {l : Launch} {g : Geo} (σ : St) {w : St} (h : f_X11_does σ = some w) : CtV l yX11_does cX11_does 1 none (rmm 4 95) g [.ref (g.2.2 (101))] σ w := enV (by decide) rfl (Nat.le_of_ble_eq_true rfl) (fun p e s m args below meth c Q X Y ls hl KR => w_X11_does_0 X σ KR Y hl h)
def I_X11_backs : List (Nat × Instr × Nat) := [(0, .iconst 0, 1), (1, .istore_n 1, 1), (2, .iload_n 1, 1), (3, .sipush 761, 3), (6, .if_icmp .ge 21, 3), (9, .aload_n 0, 1), (10, .getfield 7, 3), (13, .iload_n 1, 1), (14, .aload_n 0, 1), (15, .getfield 16, 3), (18, .iload_n 1, 1), (19, .iaload, 1), (20, .iastore, 1), (21, .iinc 1 1, 3), (24, .goto (-22), 3), (27, .return_, 1)]
set_option maxRecDepth 100000 in
theorem T_X11_backs : ∀ q ∈ I_X11_backs, decode cX11_backs q.1 = .ok (q.2.1, q.2.2) := by decide +kernel
def f_X11_backs_l2 (z : Int32 × St) : Option ((Int32 × St) ⊕ (St)) :=
  if 761 ≤ z.1 then some (.inr z.2) else chk (inb z.1 761) (chk (inb z.1 761) (some (.inl (z.1 + 1, up z.2 102 z.1.toNatClampNeg (z.2 104 z.1.toNatClampNeg)))))
set_option maxHeartbeats 4000000 in
set_option maxRecDepth 100000 in
theorem w_X11_backs_l2 (X : Cx g RX11 cX11_backs 2 none p s m args meth c) (σ : St) {r : St} (KX0 : ∀ (v : St), r = v → ∀ (H : Heap) (locs : List Loc) (ls : Array Slot), Wd g s v H locs → lv_has ls 2 [] → W p l e (rmm 0 0) s m args below meth c H locs 0 0 Q (F0 m 27 ls [])) : ∀ (n : Nat) (z : Int32 × St) {H : Heap} {locs : List Loc} {ls : Array Slot}, Wd g s z.2 H locs → lv_has ls 2 [(0, .ref (g.2.2 (101))), (1, .int (z.1))] → lp (f_X11_backs_l2) n z = some r → W p l e (rmm 0 0) s m args below meth c H locs 0 0 Q (F0 m 2 ls []) := by
  intro n
  induction n with
  | zero => intro z H locs ls Y hl h; cases h
  | succ n ih =>
    intro z H locs ls Y hl h
    obtain ⟨w, h, hw⟩ := lps h
    have KB : ∀ (v0_ : Int32) (v1_ : St), w = .inl (v0_, v1_) → ∀ (H : Heap) (locs : List Loc) (ls : Array Slot), Wd g s v1_ H locs → lv_has ls 2 [(0, .ref (g.2.2 (101))), (1, .int (v0_))] → W p l e (rmm 0 0) s m args below meth c H locs 0 0 Q (F0 m 2 ls []) := fun v0_ v1_ e H locs ls Y hl => ih (v0_, v1_) Y hl (lpl hw e)
    have KX0 := fun (v : St) (e : w = .inr v) => KX0 v (lpr hw e)
    unfold f_X11_backs_l2 at h
    refine lv_iload_n X.1 X.2.1 (dk T_X11_backs 2 rfl) rfl (lv_at hl 1 rfl) ?_
    refine lv_sipush (v := 761) X.1 X.2.1 (dk T_X11_backs 3 rfl) sp_761 ?_
    refine lv_icmp_ge (tgt := 27) X.1 X.2.1 (dk T_X11_backs 4 rfl) rfl (fun c1 => ?_) (fun c1 => ?_)
    · replace h := ipos c1 h
      exact KX0 z.2 (Option.some.inj h).symm _ _ _ Y (lv_sub hl [] rfl)
    · replace h := ineg c1 h
      refine lv_aload_n X.1 X.2.1 (dk T_X11_backs 5 rfl) rfl (lv_at hl 0 rfl) ?_
      refine gg X Y fl_X11_7 rfl rfl (dk T_X11_backs 6 rfl) ?_
      refine lv_iload_n X.1 X.2.1 (dk T_X11_backs 7 rfl) rfl (lv_at hl 1 rfl) ?_
      refine lv_aload_n X.1 X.2.1 (dk T_X11_backs 8 rfl) rfl (lv_at hl 0 rfl) ?_
      refine gg X Y fl_X11_16 rfl rfl (dk T_X11_backs 9 rfl) ?_
      refine lv_iload_n X.1 X.2.1 (dk T_X11_backs 10 rfl) rfl (lv_at hl 1 rfl) ?_
      obtain ⟨g2, h⟩ := gd h
      refine gil X Y rfl (inp g2) (dk T_X11_backs 11 rfl) ?_
      obtain ⟨g3, h⟩ := gd h
      refine gis X Y rfl (inp g3) (dk T_X11_backs 12 rfl) (fun H locs Y => ?_)
      refine lv_iinc (v := z.1 + 1) (lv' := [(1, .int (z.1 + 1)), (0, .ref (g.2.2 (101)))]) X.1 X.2.1 (dk T_X11_backs 13 rfl) hl (k := 1) rfl (icx ic_1) (Nat.le_of_ble_eq_true rfl) rfl (fun ls hl => ?_)
      refine lv_goto (tgt := 2) X.1 X.2.1 (dk T_X11_backs 14 rfl) rfl ?_
      exact KB (z.1 + 1) (up z.2 102 z.1.toNatClampNeg (z.2 104 z.1.toNatClampNeg)) (Option.some.inj h).symm _ _ _ Y (lv_sub hl [1, 0] rfl)
def f_X11_backs_0 (σ : St) : Option (St) :=
  (lp (f_X11_backs_l2) FU (0, σ)).bind fun q4 => some q4
set_option maxHeartbeats 4000000 in
set_option maxRecDepth 100000 in
theorem w_X11_backs_0 (X : Cx g RX11 cX11_backs 2 none p s m args meth c) (σ : St) {w : St} (KR : ∀ (H : Heap) (locs : List Loc) (ls : Array Slot) (pc : Nat), Wd g s w H locs → decode cX11_backs pc = .ok (.return_, 1) → W p l e (rmm 0 0) s m args below meth c H locs 0 0 Q (F0 m pc ls [])) {H : Heap} {locs : List Loc} {ls : Array Slot} (Y : Wd g s σ H locs) (hl : lv_has ls 2 [(0, .ref (g.2.2 (101)))]) (h : f_X11_backs_0 σ = some w) : W p l e (rmm 0 0) s m args below meth c H locs 0 0 Q (F0 m 0 ls []) := by
  unfold f_X11_backs_0 at h
  refine lv_iconst (v := 0) X.1 X.2.1 (dk T_X11_backs 0 rfl) ic_0 ?_
  refine lv_istore_n (lv' := [(1, .int (0)), (0, .ref (g.2.2 (101)))]) X.1 X.2.1 (dk T_X11_backs 1 rfl) rfl hl (Nat.le_of_ble_eq_true rfl) rfl (fun ls hl => ?_)
  obtain ⟨q4, hq4, h⟩ := bs h
  refine w_X11_backs_l2 X σ (fun v e H locs ls Y hl => ?_) FU (0, σ) Y (lv_sub hl [1, 0] rfl) hq4
  · obtain rfl := e
    obtain rfl := Option.some.inj h
    exact KR _ _ _ _ Y (dk T_X11_backs 15 rfl)
def f_X11_backs (σ : St) : Option (St) := f_X11_backs_0 σ
set_option maxHeartbeats 4000000 in
set_option maxRecDepth 100000 in
theorem c_X11_backs {l : Launch} {g : Geo} (σ : St) {w : St} (h : f_X11_backs σ = some w) : CtV l yX11_backs cX11_backs 2 none (rmm 0 0) g [.ref (g.2.2 (101))] σ w := enV (by decide) rfl (Nat.le_of_ble_eq_true rfl) (fun p e s m args below meth c Q X Y ls hl KR => w_X11_backs_0 X σ KR Y hl h)
def I_X11_read : List (Nat × Instr × Nat) := [(0, .aload_n 0, 1), (1, .iconst 0, 1), (2, .putfield 71, 3), (5, .aload_n 0, 1), (6, .iconst 0, 1), (7, .putfield 359, 3), (10, .aload_n 0, 1), (11, .invokevirtual 376, 3), (14, .ifCond .ne 72, 3), (17, .iconst 0, 1), (18, .istore_n 1, 1), (19, .iconst 0, 1), (20, .istore_n 2, 1), (21, .iload_n 2, 1), (22, .aload_n 0, 1), (23, .getfield 317, 3), (26, .if_icmp .ge 36, 3), (29, .iload_n 2, 1), (30, .aload_n 0, 1), (31, .getfield 314, 3), (34, .if_icmp .ge 28, 3), (37, .iload_n 1, 1), (38, .aload_n 0, 1), (39, .getfield 22, 3), (42, .iload_n 2, 1), (43, .iaload, 1), (44, .bipush 59, 2), (46, .if_icmp .ne 7, 3), (49, .iconst 1, 1), (50, .goto 4, 3), (53, .iconst 0, 1), (54, .iadd, 1), (55, .istore_n 1, 1), (56, .iinc 2 1, 3), (59, .goto (-38), 3), (62, .aload_n 0, 1), (63, .iconst 0, 1), (64, .iconst 1, 1), (65, .iload_n 1, 1), (66, .invokevirtual 365, 3), (69, .aload_n 0, 1), (70, .iconst 1, 1), (71, .iconst 2, 1), (72, .aload_n 0, 1), (73, .getfield 317, 3), (76, .invokevirtual 365, 3), (79, .aload_n 0, 1), (80, .iconst 0, 1), (81, .putfield 314, 3), (84, .iconst (-1), 1), (85, .ireturn, 1), (86, .aload_n 0, 1), (87, .invokevirtual 82, 3), (90, .aload_n 0, 1), (91, .iconst 0, 1), (92, .putfield 317, 3), (95, .aload_n 0, 1), (96, .iconst 0, 1), (97, .putfield 362, 3), (100, .aload_n 0, 1), (101, .iconst 1, 1), (102, .putfield 320, 3), (105, .iconst 1, 1), (106, .istore_n 1, 1), (107, .iload_n 1, 1), (108, .ifCond .eq 56, 3), (111, .aload_n 0, 1), (112, .getfield 359, 3), (115, .ifCond .ne 49, 3), (118, .aload_n 0, 1), (119, .invokevirtual 373, 3), (122, .aload_n 0, 1), (123, .invokevirtual 379, 3), (126, .aload_n 0, 1), (127, .invokevirtual 324, 3), (130, .bipush 59, 2), (132, .if_icmp .ne 7, 3), (135, .iconst 1, 1), (136, .goto 4, 3), (139, .iconst 0, 1), (140, .istore_n 1, 1), (141, .aload_n 0, 1), (142, .dup, 1), (143, .getfield 317, 3), (146, .iconst 1, 1), (147, .iadd, 1), (148, .putfield 317, 3), (151, .aload_n 0, 1), (152, .dup, 1), (153, .getfield 362, 3), (156, .iconst 1, 1), (157, .iadd, 1), (158, .putfield 362, 3), (161, .goto (-54), 3), (164, .aload_n 0, 1), (165, .iconst 0, 1), (166, .putfield 314, 3), (169, .aload_n 0, 1), (170, .getfield 359, 3), (173, .ifCond .le 9, 3), (176, .aload_n 0, 1), (177, .invokevirtual 382, 3), (180, .iconst (-1), 1), (181, .ireturn, 1), (182, .aload_n 0, 1), (183, .invokevirtual 85, 3), (186, .aload_n 0, 1), (187, .getfield 362, 3), (190, .ireturn, 1)]
set_option maxRecDepth 100000 in
theorem T_X11_read : ∀ q ∈ I_X11_read, decode cX11_read q.1 = .ok (q.2.1, q.2.2) := by decide +kernel
def f_X11_read_j140 (s0 : Int32) (σ : St) : Option ((Int32 × St) ⊕ (St)) :=
  some (.inl (s0, up (up σ 101 38 ((σ 101 38) + 1)) 101 40 ((up σ 101 38 ((σ 101 38) + 1) 101 40) + 1)))
set_option maxHeartbeats 4000000 in
set_option maxRecDepth 100000 in
theorem w_X11_read_j140 (X : Cx g RX11 cX11_read 3 (some .int) p s m args meth c) (s0 : Int32) (σ : St) {w : (Int32 × St) ⊕ (St)} (KB : ∀ (v0_ : Int32) (v1_ : St), w = .inl (v0_, v1_) → ∀ (H : Heap) (locs : List Loc) (ls : Array Slot), Wd g s v1_ H locs → lv_has ls 3 [(0, .ref (g.2.2 (101))), (1, .int (v0_))] → W p l e (rmm 5 115) s m args below meth c H locs 0 0 Q (F0 m 107 ls [])) (KX0 : ∀ (v : St), w = .inr v → ∀ (H : Heap) (locs : List Loc) (ls : Array Slot), Wd g s v H locs → lv_has ls 3 [(0, .ref (g.2.2 (101)))] → W p l e (rmm 5 115) s m args below meth c H locs 0 0 Q (F0 m 164 ls [])) {H : Heap} {locs : List Loc} {ls : Array Slot} (Y : Wd g s σ H locs) (hl : lv_has ls 3 [(0, .ref (g.2.2 (101)))]) (h : f_X11_read_j140 s0 σ = some w) : W p l e (rmm 5 115) s m args below meth c H locs 0 0 Q (F0 m 140 ls [.int (s0)]) := by
  unfold f_X11_read_j140 at h
  refine lv_istore_n (lv' := [(1, .int (s0)), (0, .ref (g.2.2 (101)))]) X.1 X.2.1 (dk T_X11_read 80 rfl) rfl hl (Nat.le_of_ble_eq_true rfl) rfl (fun ls hl => ?_)
  refine lv_aload_n X.1 X.2.1 (dk T_X11_read 81 rfl) rfl (lv_at hl 1 rfl) ?_
  refine lv_dup X.1 X.2.1 (dk T_X11_read 82 rfl) rfl ?_
  refine gg X Y fl_X11_317 rfl rfl (dk T_X11_read 83 rfl) ?_
  refine lv_iconst (v := 1) X.1 X.2.1 (dk T_X11_read 84 rfl) ic_1 ?_
  refine lv_iadd X.1 X.2.1 (dk T_X11_read 85 rfl) ?_
  refine gp X Y fp_X11_317 rfl (nar_int _) (dk T_X11_read 86 rfl) (fun H locs Y => ?_)
  refine lv_aload_n X.1 X.2.1 (dk T_X11_read 87 rfl) rfl (lv_at hl 1 rfl) ?_
  refine lv_dup X.1 X.2.1 (dk T_X11_read 88 rfl) rfl ?_
  refine gg X Y fl_X11_362 rfl rfl (dk T_X11_read 89 rfl) ?_
  refine lv_iconst (v := 1) X.1 X.2.1 (dk T_X11_read 90 rfl) ic_1 ?_
  refine lv_iadd X.1 X.2.1 (dk T_X11_read 91 rfl) ?_
  refine gp X Y fp_X11_362 rfl (nar_int _) (dk T_X11_read 92 rfl) (fun H locs Y => ?_)
  refine lv_goto (tgt := 107) X.1 X.2.1 (dk T_X11_read 93 rfl) rfl ?_
  exact KB s0 (up (up σ 101 38 ((σ 101 38) + 1)) 101 40 ((up σ 101 38 ((σ 101 38) + 1) 101 40) + 1)) (Option.some.inj h).symm _ _ _ Y (lv_sub hl [1, 0] rfl)
def f_X11_read_l107 (z : Int32 × St) : Option ((Int32 × St) ⊕ (St)) :=
  if z.1 = 0 then some (.inr z.2) else if (z.2 101 14) = 0 then (f_X11_readsItem z.2).bind fun q6 => (f_X11_does q6).bind fun q7 => (f_X11_here q7).bind fun q8 => if q8 = 59 then f_X11_read_j140 1 q7 else f_X11_read_j140 0 q7 else some (.inr z.2)
set_option maxHeartbeats 4000000 in
set_option maxRecDepth 100000 in
theorem w_X11_read_l107 (X : Cx g RX11 cX11_read 3 (some .int) p s m args meth c) (σ : St) {r : St} (KX0 : ∀ (v : St), r = v → ∀ (H : Heap) (locs : List Loc) (ls : Array Slot), Wd g s v H locs → lv_has ls 3 [(0, .ref (g.2.2 (101)))] → W p l e (rmm 5 115) s m args below meth c H locs 0 0 Q (F0 m 164 ls [])) : ∀ (n : Nat) (z : Int32 × St) {H : Heap} {locs : List Loc} {ls : Array Slot}, Wd g s z.2 H locs → lv_has ls 3 [(0, .ref (g.2.2 (101))), (1, .int (z.1))] → lp (f_X11_read_l107) n z = some r → W p l e (rmm 5 115) s m args below meth c H locs 0 0 Q (F0 m 107 ls []) := by
  intro n
  induction n with
  | zero => intro z H locs ls Y hl h; cases h
  | succ n ih =>
    intro z H locs ls Y hl h
    obtain ⟨w, h, hw⟩ := lps h
    have KB : ∀ (v0_ : Int32) (v1_ : St), w = .inl (v0_, v1_) → ∀ (H : Heap) (locs : List Loc) (ls : Array Slot), Wd g s v1_ H locs → lv_has ls 3 [(0, .ref (g.2.2 (101))), (1, .int (v0_))] → W p l e (rmm 5 115) s m args below meth c H locs 0 0 Q (F0 m 107 ls []) := fun v0_ v1_ e H locs ls Y hl => ih (v0_, v1_) Y hl (lpl hw e)
    have KX0 := fun (v : St) (e : w = .inr v) => KX0 v (lpr hw e)
    unfold f_X11_read_l107 at h
    refine lv_iload_n X.1 X.2.1 (dk T_X11_read 64 rfl) rfl (lv_at hl 1 rfl) ?_
    refine lv_if_eq (tgt := 164) X.1 X.2.1 (dk T_X11_read 65 rfl) rfl (fun c4 => ?_) (fun c4 => ?_)
    · replace h := ipos c4 h
      exact KX0 z.2 (Option.some.inj h).symm _ _ _ Y (lv_sub hl [0] rfl)
    · replace h := ineg c4 h
      refine lv_aload_n X.1 X.2.1 (dk T_X11_read 66 rfl) rfl (lv_at hl 0 rfl) ?_
      refine gg X Y fl_X11_359 rfl rfl (dk T_X11_read 67 rfl) ?_
      refine lv_if_ne (tgt := 164) X.1 X.2.1 (dk T_X11_read 68 rfl) rfl (fun c5 => ?_) (fun c5 => ?_)
      · replace h := ineg c5 h
        exact KX0 z.2 (Option.some.inj h).symm _ _ _ Y (lv_sub hl [0] rfl)
      · replace h := ipos c5 h
        refine lv_aload_n X.1 X.2.1 (dk T_X11_read 69 rfl) rfl (lv_at hl 0 rfl) ?_
        obtain ⟨q6, hq6, h⟩ := bs h
        refine gvV (rest := []) X Y (c_X11_readsItem z.2 hq6) cb_X11_373 rfl hl.1 rfl rfl (Nat.le_of_ble_eq_true rfl) ⟨Nat.le_of_ble_eq_true rfl, Nat.le_of_ble_eq_true rfl⟩ (dk T_X11_read 70 rfl) (fun H locs Y => ?_)
        refine lv_aload_n X.1 X.2.1 (dk T_X11_read 71 rfl) rfl (lv_at hl 0 rfl) ?_
        obtain ⟨q7, hq7, h⟩ := bs h
        refine gvV (rest := []) X Y (c_X11_does q6 hq7) cb_X11_379 rfl hl.1 rfl rfl (Nat.le_of_ble_eq_true rfl) ⟨Nat.le_of_ble_eq_true rfl, Nat.le_of_ble_eq_true rfl⟩ (dk T_X11_read 72 rfl) (fun H locs Y => ?_)
        refine lv_aload_n X.1 X.2.1 (dk T_X11_read 73 rfl) rfl (lv_at hl 0 rfl) ?_
        obtain ⟨q8, hq8, h⟩ := bs h
        refine gvI (rest := []) X Y (c_X11_here q7 hq8) cb_X11_324 rfl hl.1 rfl rfl (Nat.le_of_ble_eq_true rfl) ⟨Nat.le_of_ble_eq_true rfl, Nat.le_of_ble_eq_true rfl⟩ (dk T_X11_read 74 rfl) (fun H locs Y => ?_)
        refine lv_bipush (v := 59) X.1 X.2.1 (dk T_X11_read 75 rfl) bp_59 ?_
        refine lv_icmp_ne (tgt := 139) X.1 X.2.1 (dk T_X11_read 76 rfl) rfl (fun c9 => ?_) (fun c9 => ?_)
        · replace h := ineg c9 h
          refine lv_iconst (v := 0) X.1 X.2.1 (dk T_X11_read 79 rfl) ic_0 ?_
          exact w_X11_read_j140 X 0 q7 KB KX0 Y (lv_sub hl [0] rfl) h
        · replace h := ipos c9 h
          refine lv_iconst (v := 1) X.1 X.2.1 (dk T_X11_read 77 rfl) ic_1 ?_
          refine lv_goto (tgt := 140) X.1 X.2.1 (dk T_X11_read 78 rfl) rfl ?_
          exact w_X11_read_j140 X 1 q7 KB KX0 Y (lv_sub hl [0] rfl) h
def f_X11_read_j164 (σ : St) : Option (Int32 × St) :=
  if (up σ 101 8 0 101 14) ≤ 0 then (f_X11_keeps (up σ 101 8 0)).bind fun q12 => some (q12 101 40, q12) else (f_X11_backs (up σ 101 8 0)).bind fun q13 => some ((-1), q13)
set_option maxHeartbeats 4000000 in
set_option maxRecDepth 100000 in
theorem w_X11_read_j164 (X : Cx g RX11 cX11_read 3 (some .int) p s m args meth c) (σ : St) {w : Int32 × St} (KR : ∀ (H : Heap) (locs : List Loc) (ls : Array Slot) (pc : Nat), Wd g s w.2 H locs → decode cX11_read pc = .ok (.ireturn, 1) → W p l e (rmm 5 115) s m args below meth c H locs 0 0 Q (F0 m pc ls [.int (w.1)])) {H : Heap} {locs : List Loc} {ls : Array Slot} (Y : Wd g s σ H locs) (hl : lv_has ls 3 [(0, .ref (g.2.2 (101)))]) (h : f_X11_read_j164 σ = some w) : W p l e (rmm 5 115) s m args below meth c H locs 0 0 Q (F0 m 164 ls []) := by
  unfold f_X11_read_j164 at h
  refine lv_aload_n X.1 X.2.1 (dk T_X11_read 94 rfl) rfl (lv_at hl 0 rfl) ?_
  refine lv_iconst (v := 0) X.1 X.2.1 (dk T_X11_read 95 rfl) ic_0 ?_
  refine gp X Y fp_X11_314 rfl (nar_int _) (dk T_X11_read 96 rfl) (fun H locs Y => ?_)
  refine lv_aload_n X.1 X.2.1 (dk T_X11_read 97 rfl) rfl (lv_at hl 0 rfl) ?_
  refine gg X Y fl_X11_359 rfl rfl (dk T_X11_read 98 rfl) ?_
  refine lv_if_le (tgt := 182) X.1 X.2.1 (dk T_X11_read 99 rfl) rfl (fun c11 => ?_) (fun c11 => ?_)
  · replace h := ipos c11 h
    refine lv_aload_n X.1 X.2.1 (dk T_X11_read 104 rfl) rfl (lv_at hl 0 rfl) ?_
    obtain ⟨q12, hq12, h⟩ := bs h
    refine gvV (rest := []) X Y (c_X11_keeps (up σ 101 8 0) hq12) cb_X11_85 rfl hl.1 rfl rfl (Nat.le_of_ble_eq_true rfl) ⟨Nat.le_of_ble_eq_true rfl, Nat.le_of_ble_eq_true rfl⟩ (dk T_X11_read 105 rfl) (fun H locs Y => ?_)
    refine lv_aload_n X.1 X.2.1 (dk T_X11_read 106 rfl) rfl (lv_at hl 0 rfl) ?_
    refine gg X Y fl_X11_362 rfl rfl (dk T_X11_read 107 rfl) ?_
    obtain rfl := Option.some.inj h
    exact KR _ _ _ _ Y (dk T_X11_read 108 rfl)
  · replace h := ineg c11 h
    refine lv_aload_n X.1 X.2.1 (dk T_X11_read 100 rfl) rfl (lv_at hl 0 rfl) ?_
    obtain ⟨q13, hq13, h⟩ := bs h
    refine gvV (rest := []) X Y (c_X11_backs (up σ 101 8 0) hq13) cb_X11_382 rfl hl.1 rfl rfl (Nat.le_of_ble_eq_true rfl) ⟨Nat.le_of_ble_eq_true rfl, Nat.le_of_ble_eq_true rfl⟩ (dk T_X11_read 101 rfl) (fun H locs Y => ?_)
    refine lv_iconst (v := (-1)) X.1 X.2.1 (dk T_X11_read 102 rfl) ic_m1 ?_
    obtain rfl := Option.some.inj h
    exact KR _ _ _ _ Y (dk T_X11_read 103 rfl)
def f_X11_read_j54 (x2 : Int32) (s0 : Int32) (s1 : Int32) (σ : St) : Option ((Int32 × Int32) ⊕ (Int32)) :=
  some (.inl (s1 + s0, x2 + 1))
set_option maxHeartbeats 4000000 in
set_option maxRecDepth 100000 in
theorem w_X11_read_j54 (X : Cx g RX11 cX11_read 3 (some .int) p s m args meth c) (x2 : Int32) (s0 : Int32) (s1 : Int32) (σ : St) {w : (Int32 × Int32) ⊕ (Int32)} (KB : ∀ (v0_ : Int32) (v1_ : Int32), w = .inl (v0_, v1_) → ∀ (H : Heap) (locs : List Loc) (ls : Array Slot), Wd g s σ H locs → lv_has ls 3 [(0, .ref (g.2.2 (101))), (1, .int (v0_)), (2, .int (v1_))] → W p l e (rmm 5 115) s m args below meth c H locs 0 0 Q (F0 m 21 ls [])) (KX0 : ∀ (v : Int32), w = .inr v → ∀ (H : Heap) (locs : List Loc) (ls : Array Slot), Wd g s σ H locs → lv_has ls 3 [(0, .ref (g.2.2 (101))), (1, .int (v))] → W p l e (rmm 5 115) s m args below meth c H locs 0 0 Q (F0 m 62 ls [])) {H : Heap} {locs : List Loc} {ls : Array Slot} (Y : Wd g s σ H locs) (hl : lv_has ls 3 [(0, .ref (g.2.2 (101))), (2, .int (x2))]) (h : f_X11_read_j54 x2 s0 s1 σ = some w) : W p l e (rmm 5 115) s m args below meth c H locs 0 0 Q (F0 m 54 ls [.int (s0), .int (s1)]) := by
  unfold f_X11_read_j54 at h
  refine lv_iadd X.1 X.2.1 (dk T_X11_read 31 rfl) ?_
  refine lv_istore_n (lv' := [(1, .int (s1 + s0)), (0, .ref (g.2.2 (101))), (2, .int (x2))]) X.1 X.2.1 (dk T_X11_read 32 rfl) rfl hl (Nat.le_of_ble_eq_true rfl) rfl (fun ls hl => ?_)
  refine lv_iinc (v := x2 + 1) (lv' := [(2, .int (x2 + 1)), (1, .int (s1 + s0)), (0, .ref (g.2.2 (101)))]) X.1 X.2.1 (dk T_X11_read 33 rfl) hl (k := 2) rfl (icx ic_1) (Nat.le_of_ble_eq_true rfl) rfl (fun ls hl => ?_)
  refine lv_goto (tgt := 21) X.1 X.2.1 (dk T_X11_read 34 rfl) rfl ?_
  exact KB (s1 + s0) (x2 + 1) (Option.some.inj h).symm _ _ _ Y (lv_sub hl [2, 1, 0] rfl)
def f_X11_read_l21 (σ : St) (z : Int32 × Int32) : Option ((Int32 × Int32) ⊕ (Int32)) :=
  if (σ 101 38) ≤ z.2 then some (.inr z.1) else if (σ 101 8) ≤ z.2 then some (.inr z.1) else chk (inb z.2 70) (if (σ 106 z.2.toNatClampNeg) = 59 then f_X11_read_j54 z.2 1 z.1 σ else f_X11_read_j54 z.2 0 z.1 σ)
set_option maxHeartbeats 4000000 in
set_option maxRecDepth 100000 in
theorem w_X11_read_l21 (X : Cx g RX11 cX11_read 3 (some .int) p s m args meth c) (σ : St) {r : Int32} (KX0 : ∀ (v : Int32), r = v → ∀ (H : Heap) (locs : List Loc) (ls : Array Slot), Wd g s σ H locs → lv_has ls 3 [(0, .ref (g.2.2 (101))), (1, .int (v))] → W p l e (rmm 5 115) s m args below meth c H locs 0 0 Q (F0 m 62 ls [])) : ∀ (n : Nat) (z : Int32 × Int32) {H : Heap} {locs : List Loc} {ls : Array Slot}, Wd g s σ H locs → lv_has ls 3 [(0, .ref (g.2.2 (101))), (1, .int (z.1)), (2, .int (z.2))] → lp (f_X11_read_l21 σ) n z = some r → W p l e (rmm 5 115) s m args below meth c H locs 0 0 Q (F0 m 21 ls []) := by
  intro n
  induction n with
  | zero => intro z H locs ls Y hl h; cases h
  | succ n ih =>
    intro z H locs ls Y hl h
    obtain ⟨w, h, hw⟩ := lps h
    have KB : ∀ (v0_ : Int32) (v1_ : Int32), w = .inl (v0_, v1_) → ∀ (H : Heap) (locs : List Loc) (ls : Array Slot), Wd g s σ H locs → lv_has ls 3 [(0, .ref (g.2.2 (101))), (1, .int (v0_)), (2, .int (v1_))] → W p l e (rmm 5 115) s m args below meth c H locs 0 0 Q (F0 m 21 ls []) := fun v0_ v1_ e H locs ls Y hl => ih (v0_, v1_) Y hl (lpl hw e)
    have KX0 := fun (v : Int32) (e : w = .inr v) => KX0 v (lpr hw e)
    unfold f_X11_read_l21 at h
    refine lv_iload_n X.1 X.2.1 (dk T_X11_read 13 rfl) rfl (lv_at hl 2 rfl) ?_
    refine lv_aload_n X.1 X.2.1 (dk T_X11_read 14 rfl) rfl (lv_at hl 0 rfl) ?_
    refine gg X Y fl_X11_317 rfl rfl (dk T_X11_read 15 rfl) ?_
    refine lv_icmp_ge (tgt := 62) X.1 X.2.1 (dk T_X11_read 16 rfl) rfl (fun c14 => ?_) (fun c14 => ?_)
    · replace h := ipos c14 h
      exact KX0 z.1 (Option.some.inj h).symm _ _ _ Y (lv_sub hl [0, 1] rfl)
    · replace h := ineg c14 h
      refine lv_iload_n X.1 X.2.1 (dk T_X11_read 17 rfl) rfl (lv_at hl 2 rfl) ?_
      refine lv_aload_n X.1 X.2.1 (dk T_X11_read 18 rfl) rfl (lv_at hl 0 rfl) ?_
      refine gg X Y fl_X11_314 rfl rfl (dk T_X11_read 19 rfl) ?_
      refine lv_icmp_ge (tgt := 62) X.1 X.2.1 (dk T_X11_read 20 rfl) rfl (fun c15 => ?_) (fun c15 => ?_)
      · replace h := ipos c15 h
        exact KX0 z.1 (Option.some.inj h).symm _ _ _ Y (lv_sub hl [0, 1] rfl)
      · replace h := ineg c15 h
        refine lv_iload_n X.1 X.2.1 (dk T_X11_read 21 rfl) rfl (lv_at hl 1 rfl) ?_
        refine lv_aload_n X.1 X.2.1 (dk T_X11_read 22 rfl) rfl (lv_at hl 0 rfl) ?_
        refine gg X Y fl_X11_22 rfl rfl (dk T_X11_read 23 rfl) ?_
        refine lv_iload_n X.1 X.2.1 (dk T_X11_read 24 rfl) rfl (lv_at hl 2 rfl) ?_
        obtain ⟨g16, h⟩ := gd h
        refine gil X Y rfl (inp g16) (dk T_X11_read 25 rfl) ?_
        refine lv_bipush (v := 59) X.1 X.2.1 (dk T_X11_read 26 rfl) bp_59 ?_
        refine lv_icmp_ne (tgt := 53) X.1 X.2.1 (dk T_X11_read 27 rfl) rfl (fun c17 => ?_) (fun c17 => ?_)
        · replace h := ineg c17 h
          refine lv_iconst (v := 0) X.1 X.2.1 (dk T_X11_read 30 rfl) ic_0 ?_
          exact w_X11_read_j54 X z.2 0 z.1 σ KB KX0 Y (lv_sub hl [0, 2] rfl) h
        · replace h := ipos c17 h
          refine lv_iconst (v := 1) X.1 X.2.1 (dk T_X11_read 28 rfl) ic_1 ?_
          refine lv_goto (tgt := 54) X.1 X.2.1 (dk T_X11_read 29 rfl) rfl ?_
          exact w_X11_read_j54 X z.2 1 z.1 σ KB KX0 Y (lv_sub hl [0, 2] rfl) h
def f_X11_read_j62 (x1 : Int32) (σ : St) : Option (Int32 × St) :=
  (f_X11_faults 0 1 x1 σ).bind fun q19 => (f_X11_faults 1 2 (q19 101 38) q19).bind fun q20 => some ((-1), up q20 101 8 0)
set_option maxHeartbeats 4000000 in
set_option maxRecDepth 100000 in
theorem w_X11_read_j62 (X : Cx g RX11 cX11_read 3 (some .int) p s m args meth c) (x1 : Int32) (σ : St) {w : Int32 × St} (KR : ∀ (H : Heap) (locs : List Loc) (ls : Array Slot) (pc : Nat), Wd g s w.2 H locs → decode cX11_read pc = .ok (.ireturn, 1) → W p l e (rmm 5 115) s m args below meth c H locs 0 0 Q (F0 m pc ls [.int (w.1)])) {H : Heap} {locs : List Loc} {ls : Array Slot} (Y : Wd g s σ H locs) (hl : lv_has ls 3 [(0, .ref (g.2.2 (101))), (1, .int (x1))]) (h : f_X11_read_j62 x1 σ = some w) : W p l e (rmm 5 115) s m args below meth c H locs 0 0 Q (F0 m 62 ls []) := by
  unfold f_X11_read_j62 at h
  refine lv_aload_n X.1 X.2.1 (dk T_X11_read 35 rfl) rfl (lv_at hl 0 rfl) ?_
  refine lv_iconst (v := 0) X.1 X.2.1 (dk T_X11_read 36 rfl) ic_0 ?_
  refine lv_iconst (v := 1) X.1 X.2.1 (dk T_X11_read 37 rfl) ic_1 ?_
  refine lv_iload_n X.1 X.2.1 (dk T_X11_read 38 rfl) rfl (lv_at hl 1 rfl) ?_
  obtain ⟨q19, hq19, h⟩ := bs h
  refine gvV (rest := []) X Y (c_X11_faults 0 1 x1 σ hq19) cb_X11_365 rfl hl.1 rfl rfl (Nat.le_of_ble_eq_true rfl) ⟨Nat.le_of_ble_eq_true rfl, Nat.le_of_ble_eq_true rfl⟩ (dk T_X11_read 39 rfl) (fun H locs Y => ?_)
  refine lv_aload_n X.1 X.2.1 (dk T_X11_read 40 rfl) rfl (lv_at hl 0 rfl) ?_
  refine lv_iconst (v := 1) X.1 X.2.1 (dk T_X11_read 41 rfl) ic_1 ?_
  refine lv_iconst (v := 2) X.1 X.2.1 (dk T_X11_read 42 rfl) ic_2 ?_
  refine lv_aload_n X.1 X.2.1 (dk T_X11_read 43 rfl) rfl (lv_at hl 0 rfl) ?_
  refine gg X Y fl_X11_317 rfl rfl (dk T_X11_read 44 rfl) ?_
  obtain ⟨q20, hq20, h⟩ := bs h
  refine gvV (rest := []) X Y (c_X11_faults 1 2 (q19 101 38) q19 hq20) cb_X11_365 rfl hl.1 rfl rfl (Nat.le_of_ble_eq_true rfl) ⟨Nat.le_of_ble_eq_true rfl, Nat.le_of_ble_eq_true rfl⟩ (dk T_X11_read 45 rfl) (fun H locs Y => ?_)
  refine lv_aload_n X.1 X.2.1 (dk T_X11_read 46 rfl) rfl (lv_at hl 0 rfl) ?_
  refine lv_iconst (v := 0) X.1 X.2.1 (dk T_X11_read 47 rfl) ic_0 ?_
  refine gp X Y fp_X11_314 rfl (nar_int _) (dk T_X11_read 48 rfl) (fun H locs Y => ?_)
  refine lv_iconst (v := (-1)) X.1 X.2.1 (dk T_X11_read 49 rfl) ic_m1 ?_
  obtain rfl := Option.some.inj h
  exact KR _ _ _ _ Y (dk T_X11_read 50 rfl)
def f_X11_read_0 (σ : St) : Option (Int32 × St) :=
  (f_X11_isText (up (up σ 101 0 0) 101 14 0)).bind fun q1 => if q1.1 = 0 then (lp (f_X11_read_l21 q1.2) FU (0, 0)).bind fun q18 => f_X11_read_j62 q18 q1.2 else (f_X11_frames q1.2).bind fun q3 => (lp (f_X11_read_l107) FU (1, up (up (up q3 101 38 0) 101 40 0) 101 39 1)).bind fun q10 => f_X11_read_j164 q10
set_option maxHeartbeats 4000000 in
set_option maxRecDepth 100000 in
theorem w_X11_read_0 (X : Cx g RX11 cX11_read 3 (some .int) p s m args meth c) (σ : St) {w : Int32 × St} (KR : ∀ (H : Heap) (locs : List Loc) (ls : Array Slot) (pc : Nat), Wd g s w.2 H locs → decode cX11_read pc = .ok (.ireturn, 1) → W p l e (rmm 5 115) s m args below meth c H locs 0 0 Q (F0 m pc ls [.int (w.1)])) {H : Heap} {locs : List Loc} {ls : Array Slot} (Y : Wd g s σ H locs) (hl : lv_has ls 3 [(0, .ref (g.2.2 (101)))]) (h : f_X11_read_0 σ = some w) : W p l e (rmm 5 115) s m args below meth c H locs 0 0 Q (F0 m 0 ls []) := by
  unfold f_X11_read_0 at h
  refine lv_aload_n X.1 X.2.1 (dk T_X11_read 0 rfl) rfl (lv_at hl 0 rfl) ?_
  refine lv_iconst (v := 0) X.1 X.2.1 (dk T_X11_read 1 rfl) ic_0 ?_
  refine gp X Y fp_X11_71 rfl (nar_int _) (dk T_X11_read 2 rfl) (fun H locs Y => ?_)
  refine lv_aload_n X.1 X.2.1 (dk T_X11_read 3 rfl) rfl (lv_at hl 0 rfl) ?_
  refine lv_iconst (v := 0) X.1 X.2.1 (dk T_X11_read 4 rfl) ic_0 ?_
  refine gp X Y fp_X11_359 rfl (nar_int _) (dk T_X11_read 5 rfl) (fun H locs Y => ?_)
  refine lv_aload_n X.1 X.2.1 (dk T_X11_read 6 rfl) rfl (lv_at hl 0 rfl) ?_
  obtain ⟨q1, hq1, h⟩ := bs h
  refine gvI (rest := []) X Y (c_X11_isText (up (up σ 101 0 0) 101 14 0) hq1) cb_X11_376 rfl hl.1 rfl rfl (Nat.le_of_ble_eq_true rfl) ⟨Nat.le_of_ble_eq_true rfl, Nat.le_of_ble_eq_true rfl⟩ (dk T_X11_read 7 rfl) (fun H locs Y => ?_)
  refine lv_if_ne (tgt := 86) X.1 X.2.1 (dk T_X11_read 8 rfl) rfl (fun c2 => ?_) (fun c2 => ?_)
  · replace h := ineg c2 h
    refine lv_aload_n X.1 X.2.1 (dk T_X11_read 51 rfl) rfl (lv_at hl 0 rfl) ?_
    obtain ⟨q3, hq3, h⟩ := bs h
    refine gvV (rest := []) X Y (c_X11_frames q1.2 hq3) cb_X11_82 rfl hl.1 rfl rfl (Nat.le_of_ble_eq_true rfl) ⟨Nat.le_of_ble_eq_true rfl, Nat.le_of_ble_eq_true rfl⟩ (dk T_X11_read 52 rfl) (fun H locs Y => ?_)
    refine lv_aload_n X.1 X.2.1 (dk T_X11_read 53 rfl) rfl (lv_at hl 0 rfl) ?_
    refine lv_iconst (v := 0) X.1 X.2.1 (dk T_X11_read 54 rfl) ic_0 ?_
    refine gp X Y fp_X11_317 rfl (nar_int _) (dk T_X11_read 55 rfl) (fun H locs Y => ?_)
    refine lv_aload_n X.1 X.2.1 (dk T_X11_read 56 rfl) rfl (lv_at hl 0 rfl) ?_
    refine lv_iconst (v := 0) X.1 X.2.1 (dk T_X11_read 57 rfl) ic_0 ?_
    refine gp X Y fp_X11_362 rfl (nar_int _) (dk T_X11_read 58 rfl) (fun H locs Y => ?_)
    refine lv_aload_n X.1 X.2.1 (dk T_X11_read 59 rfl) rfl (lv_at hl 0 rfl) ?_
    refine lv_iconst (v := 1) X.1 X.2.1 (dk T_X11_read 60 rfl) ic_1 ?_
    refine gp X Y fp_X11_320 rfl nar_b1 (dk T_X11_read 61 rfl) (fun H locs Y => ?_)
    refine lv_iconst (v := 1) X.1 X.2.1 (dk T_X11_read 62 rfl) ic_1 ?_
    refine lv_istore_n (lv' := [(1, .int (1)), (0, .ref (g.2.2 (101)))]) X.1 X.2.1 (dk T_X11_read 63 rfl) rfl hl (Nat.le_of_ble_eq_true rfl) rfl (fun ls hl => ?_)
    obtain ⟨q10, hq10, h⟩ := bs h
    refine w_X11_read_l107 X σ (fun v e H locs ls Y hl => ?_) FU (1, up (up (up q3 101 38 0) 101 40 0) 101 39 1) Y (lv_sub hl [1, 0] rfl) hq10
    · obtain rfl := e
      exact w_X11_read_j164 X q10 KR Y (lv_sub hl [0] rfl) h
  · replace h := ipos c2 h
    refine lv_iconst (v := 0) X.1 X.2.1 (dk T_X11_read 9 rfl) ic_0 ?_
    refine lv_istore_n (lv' := [(1, .int (0)), (0, .ref (g.2.2 (101)))]) X.1 X.2.1 (dk T_X11_read 10 rfl) rfl hl (Nat.le_of_ble_eq_true rfl) rfl (fun ls hl => ?_)
    refine lv_iconst (v := 0) X.1 X.2.1 (dk T_X11_read 11 rfl) ic_0 ?_
    refine lv_istore_n (lv' := [(2, .int (0)), (1, .int (0)), (0, .ref (g.2.2 (101)))]) X.1 X.2.1 (dk T_X11_read 12 rfl) rfl hl (Nat.le_of_ble_eq_true rfl) rfl (fun ls hl => ?_)
    obtain ⟨q18, hq18, h⟩ := bs h
    refine w_X11_read_l21 X q1.2 (fun v e H locs ls Y hl => ?_) FU (0, 0) Y (lv_sub hl [2, 1, 0] rfl) hq18
    · obtain rfl := e
      exact w_X11_read_j62 X q18 q1.2 KR Y (lv_sub hl [0, 1] rfl) h
def f_X11_read (σ : St) : Option (Int32 × St) := f_X11_read_0 σ
set_option maxHeartbeats 4000000 in
set_option maxRecDepth 100000 in
theorem c_X11_read {l : Launch} {g : Geo} (σ : St) {w : Int32 × St} (h : f_X11_read σ = some w) : CtI l yX11_read cX11_read 3 (some .int) (rmm 5 115) g [.ref (g.2.2 (101))] σ w.1 w.2 := enI .int (by decide) rfl rfl (Nat.le_of_ble_eq_true rfl) (fun p e s m args below meth c Q X Y ls hl KR => w_X11_read_0 X σ KR Y hl h)
def I_X11_fault : List (Nat × Instr × Nat) := [(0, .aload_n 0, 1), (1, .iload_n 1, 1), (2, .iconst 0, 1), (3, .aload_n 0, 1), (4, .getfield 359, 3), (7, .iconst 1, 1), (8, .isub, 1), (9, .invokestatic 75, 3), (12, .ifCond .eq 7, 3), (15, .iconst 0, 1), (16, .goto 4, 3), (19, .iconst 1, 1), (20, .putfield 71, 3), (23, .aload_n 0, 1), (24, .getfield 71, 3), (27, .ifCond .le 7, 3), (30, .iconst 0, 1), (31, .goto 22, 3), (34, .iload_n 2, 1), (35, .ifCond .eq 12, 3), (38, .aload_n 0, 1), (39, .getfield 34, 3), (42, .iload_n 1, 1), (43, .iaload, 1), (44, .goto 9, 3), (47, .aload_n 0, 1), (48, .getfield 31, 3), (51, .iload_n 1, 1), (52, .iaload, 1), (53, .ireturn, 1)]
set_option maxRecDepth 100000 in
theorem T_X11_fault : ∀ q ∈ I_X11_fault, decode cX11_fault q.1 = .ok (q.2.1, q.2.2) := by decide +kernel
def f_X11_fault_j20 (x1 : Int32) (x2 : Int32) (s0 : Int32) (σ : St) : Option (Int32 × St) :=
  if (up σ 101 0 s0 101 0) ≤ 0 then if x2 = 0 then chk (inb x1 3) (some ((up σ 101 0 s0) 109 x1.toNatClampNeg, up σ 101 0 s0)) else chk (inb x1 3) (some ((up σ 101 0 s0) 110 x1.toNatClampNeg, up σ 101 0 s0)) else some (0, up σ 101 0 s0)
set_option maxHeartbeats 4000000 in
set_option maxRecDepth 100000 in
theorem w_X11_fault_j20 (X : Cx g RX11 cX11_fault 3 (some .int) p s m args meth c) (x1 : Int32) (x2 : Int32) (s0 : Int32) (σ : St) {w : Int32 × St} (KR : ∀ (H : Heap) (locs : List Loc) (ls : Array Slot) (pc : Nat), Wd g s w.2 H locs → decode cX11_fault pc = .ok (.ireturn, 1) → W p l e (rmm 1 22) s m args below meth c H locs 0 0 Q (F0 m pc ls [.int (w.1)])) {H : Heap} {locs : List Loc} {ls : Array Slot} (Y : Wd g s σ H locs) (hl : lv_has ls 3 [(0, .ref (g.2.2 (101))), (1, .int (x1)), (2, .int (x2))]) (h : f_X11_fault_j20 x1 x2 s0 σ = some w) : W p l e (rmm 1 22) s m args below meth c H locs 0 0 Q (F0 m 20 ls [.int (s0), .ref (g.2.2 (101))]) := by
  unfold f_X11_fault_j20 at h
  refine gp X Y fp_X11_71 rfl (nar_int _) (dk T_X11_fault 12 rfl) (fun H locs Y => ?_)
  refine lv_aload_n X.1 X.2.1 (dk T_X11_fault 13 rfl) rfl (lv_at hl 0 rfl) ?_
  refine gg X Y fl_X11_71 rfl rfl (dk T_X11_fault 14 rfl) ?_
  refine lv_if_le (tgt := 34) X.1 X.2.1 (dk T_X11_fault 15 rfl) rfl (fun c3 => ?_) (fun c3 => ?_)
  · replace h := ipos c3 h
    refine lv_iload_n X.1 X.2.1 (dk T_X11_fault 18 rfl) rfl (lv_at hl 2 rfl) ?_
    refine lv_if_eq (tgt := 47) X.1 X.2.1 (dk T_X11_fault 19 rfl) rfl (fun c4 => ?_) (fun c4 => ?_)
    · replace h := ipos c4 h
      refine lv_aload_n X.1 X.2.1 (dk T_X11_fault 25 rfl) rfl (lv_at hl 0 rfl) ?_
      refine gg X Y fl_X11_31 rfl rfl (dk T_X11_fault 26 rfl) ?_
      refine lv_iload_n X.1 X.2.1 (dk T_X11_fault 27 rfl) rfl (lv_at hl 1 rfl) ?_
      obtain ⟨g5, h⟩ := gd h
      refine gil X Y rfl (inp g5) (dk T_X11_fault 28 rfl) ?_
      obtain rfl := Option.some.inj h
      exact KR _ _ _ _ Y (dk T_X11_fault 29 rfl)
    · replace h := ineg c4 h
      refine lv_aload_n X.1 X.2.1 (dk T_X11_fault 20 rfl) rfl (lv_at hl 0 rfl) ?_
      refine gg X Y fl_X11_34 rfl rfl (dk T_X11_fault 21 rfl) ?_
      refine lv_iload_n X.1 X.2.1 (dk T_X11_fault 22 rfl) rfl (lv_at hl 1 rfl) ?_
      obtain ⟨g6, h⟩ := gd h
      refine gil X Y rfl (inp g6) (dk T_X11_fault 23 rfl) ?_
      refine lv_goto (tgt := 53) X.1 X.2.1 (dk T_X11_fault 24 rfl) rfl ?_
      obtain rfl := Option.some.inj h
      exact KR _ _ _ _ Y (dk T_X11_fault 29 rfl)
  · replace h := ineg c3 h
    refine lv_iconst (v := 0) X.1 X.2.1 (dk T_X11_fault 16 rfl) ic_0 ?_
    refine lv_goto (tgt := 53) X.1 X.2.1 (dk T_X11_fault 17 rfl) rfl ?_
    obtain rfl := Option.some.inj h
    exact KR _ _ _ _ Y (dk T_X11_fault 29 rfl)
def f_X11_fault_0 (x1 : Int32) (x2 : Int32) (σ : St) : Option (Int32 × St) :=
  (f_X11_in x1 0 ((σ 101 14) - 1)).bind fun q1 => if q1 = 0 then f_X11_fault_j20 x1 x2 1 σ else f_X11_fault_j20 x1 x2 0 σ
set_option maxHeartbeats 4000000 in
set_option maxRecDepth 100000 in
theorem w_X11_fault_0 (X : Cx g RX11 cX11_fault 3 (some .int) p s m args meth c) (x1 : Int32) (x2 : Int32) (σ : St) {w : Int32 × St} (KR : ∀ (H : Heap) (locs : List Loc) (ls : Array Slot) (pc : Nat), Wd g s w.2 H locs → decode cX11_fault pc = .ok (.ireturn, 1) → W p l e (rmm 1 22) s m args below meth c H locs 0 0 Q (F0 m pc ls [.int (w.1)])) {H : Heap} {locs : List Loc} {ls : Array Slot} (Y : Wd g s σ H locs) (hl : lv_has ls 3 [(0, .ref (g.2.2 (101))), (1, .int (x1)), (2, .int (x2))]) (h : f_X11_fault_0 x1 x2 σ = some w) : W p l e (rmm 1 22) s m args below meth c H locs 0 0 Q (F0 m 0 ls []) := by
  unfold f_X11_fault_0 at h
  refine lv_aload_n X.1 X.2.1 (dk T_X11_fault 0 rfl) rfl (lv_at hl 0 rfl) ?_
  refine lv_iload_n X.1 X.2.1 (dk T_X11_fault 1 rfl) rfl (lv_at hl 1 rfl) ?_
  refine lv_iconst (v := 0) X.1 X.2.1 (dk T_X11_fault 2 rfl) ic_0 ?_
  refine lv_aload_n X.1 X.2.1 (dk T_X11_fault 3 rfl) rfl (lv_at hl 0 rfl) ?_
  refine gg X Y fl_X11_359 rfl rfl (dk T_X11_fault 4 rfl) ?_
  refine lv_iconst (v := 1) X.1 X.2.1 (dk T_X11_fault 5 rfl) ic_1 ?_
  refine lv_isub X.1 X.2.1 (dk T_X11_fault 6 rfl) ?_
  obtain ⟨q1, hq1, h⟩ := bs h
  refine gsI (rest := [.ref (g.2.2 (101))]) X Y (c_X11_in x1 0 ((σ 101 14) - 1) σ hq1) cb_X11_75 hl.1 rfl rfl (Nat.le_of_ble_eq_true rfl) ⟨Nat.le_of_ble_eq_true rfl, Nat.le_of_ble_eq_true rfl⟩ (dk T_X11_fault 7 rfl) (fun H locs Y => ?_)
  refine lv_if_eq (tgt := 19) X.1 X.2.1 (dk T_X11_fault 8 rfl) rfl (fun c2 => ?_) (fun c2 => ?_)
  · replace h := ipos c2 h
    refine lv_iconst (v := 1) X.1 X.2.1 (dk T_X11_fault 11 rfl) ic_1 ?_
    exact w_X11_fault_j20 X x1 x2 1 σ KR Y (lv_sub hl [0, 1, 2] rfl) h
  · replace h := ineg c2 h
    refine lv_iconst (v := 0) X.1 X.2.1 (dk T_X11_fault 9 rfl) ic_0 ?_
    refine lv_goto (tgt := 20) X.1 X.2.1 (dk T_X11_fault 10 rfl) rfl ?_
    exact w_X11_fault_j20 X x1 x2 0 σ KR Y (lv_sub hl [0, 1, 2] rfl) h
def f_X11_fault (x1 : Int32) (x2 : Int32) (σ : St) : Option (Int32 × St) := f_X11_fault_0 x1 x2 σ
set_option maxHeartbeats 4000000 in
set_option maxRecDepth 100000 in
theorem c_X11_fault {l : Launch} {g : Geo} (x1 : Int32) (x2 : Int32) (σ : St) {w : Int32 × St} (h : f_X11_fault x1 x2 σ = some w) : CtI l yX11_fault cX11_fault 3 (some .int) (rmm 1 22) g [.ref (g.2.2 (101)), .int (x1), .int (x2)] σ w.1 w.2 := enI .int (by decide) rfl rfl (Nat.le_of_ble_eq_true rfl) (fun p e s m args below meth c Q X Y ls hl KR => w_X11_fault_0 X x1 x2 σ KR Y hl h)
def I_X11_undo : List (Nat × Instr × Nat) := [(0, .aload_n 0, 1), (1, .iconst 0, 1), (2, .putfield 71, 3), (5, .aload_n 0, 1), (6, .getfield 79, 3), (9, .ifCond .ne 9, 3), (12, .aload_n 0, 1), (13, .iconst 1, 1), (14, .invokevirtual 91, 3), (17, .ireturn, 1), (18, .aload_n 0, 1), (19, .dup, 1), (20, .getfield 79, 3), (23, .iconst 1, 1), (24, .isub, 1), (25, .putfield 79, 3), (28, .iconst 0, 1), (29, .istore_n 1, 1), (30, .iload_n 1, 1), (31, .sipush 761, 3), (34, .if_icmp .ge 30, 3), (37, .aload_n 0, 1), (38, .getfield 7, 3), (41, .iload_n 1, 1), (42, .aload_n 0, 1), (43, .getfield 19, 3), (46, .sipush 761, 3), (49, .aload_n 0, 1), (50, .getfield 79, 3), (53, .imul, 1), (54, .iload_n 1, 1), (55, .iadd, 1), (56, .iaload, 1), (57, .iastore, 1), (58, .iinc 1 1, 3), (61, .goto (-31), 3), (64, .aload_n 0, 1), (65, .getfield 79, 3), (68, .ireturn, 1)]
set_option maxRecDepth 100000 in
theorem T_X11_undo : ∀ q ∈ I_X11_undo, decode cX11_undo q.1 = .ok (q.2.1, q.2.2) := by decide +kernel
def f_X11_undo_l30 (z : Int32 × St) : Option ((Int32 × St) ⊕ (St)) :=
  if 761 ≤ z.1 then some (.inr z.2) else chk (inb ((761 * (z.2 101 5)) + z.1) 6088) (chk (inb z.1 761) (some (.inl (z.1 + 1, up z.2 102 z.1.toNatClampNeg (z.2 105 ((761 * (z.2 101 5)) + z.1).toNatClampNeg)))))
set_option maxHeartbeats 4000000 in
set_option maxRecDepth 100000 in
theorem w_X11_undo_l30 (X : Cx g RX11 cX11_undo 2 (some .int) p s m args meth c) (σ : St) {r : St} (KX0 : ∀ (v : St), r = v → ∀ (H : Heap) (locs : List Loc) (ls : Array Slot), Wd g s v H locs → lv_has ls 2 [(0, .ref (g.2.2 (101)))] → W p l e (rmm 1 21) s m args below meth c H locs 0 0 Q (F0 m 64 ls [])) : ∀ (n : Nat) (z : Int32 × St) {H : Heap} {locs : List Loc} {ls : Array Slot}, Wd g s z.2 H locs → lv_has ls 2 [(0, .ref (g.2.2 (101))), (1, .int (z.1))] → lp (f_X11_undo_l30) n z = some r → W p l e (rmm 1 21) s m args below meth c H locs 0 0 Q (F0 m 30 ls []) := by
  intro n
  induction n with
  | zero => intro z H locs ls Y hl h; cases h
  | succ n ih =>
    intro z H locs ls Y hl h
    obtain ⟨w, h, hw⟩ := lps h
    have KB : ∀ (v0_ : Int32) (v1_ : St), w = .inl (v0_, v1_) → ∀ (H : Heap) (locs : List Loc) (ls : Array Slot), Wd g s v1_ H locs → lv_has ls 2 [(0, .ref (g.2.2 (101))), (1, .int (v0_))] → W p l e (rmm 1 21) s m args below meth c H locs 0 0 Q (F0 m 30 ls []) := fun v0_ v1_ e H locs ls Y hl => ih (v0_, v1_) Y hl (lpl hw e)
    have KX0 := fun (v : St) (e : w = .inr v) => KX0 v (lpr hw e)
    unfold f_X11_undo_l30 at h
    refine lv_iload_n X.1 X.2.1 (dk T_X11_undo 18 rfl) rfl (lv_at hl 1 rfl) ?_
    refine lv_sipush (v := 761) X.1 X.2.1 (dk T_X11_undo 19 rfl) sp_761 ?_
    refine lv_icmp_ge (tgt := 64) X.1 X.2.1 (dk T_X11_undo 20 rfl) rfl (fun c2 => ?_) (fun c2 => ?_)
    · replace h := ipos c2 h
      exact KX0 z.2 (Option.some.inj h).symm _ _ _ Y (lv_sub hl [0] rfl)
    · replace h := ineg c2 h
      refine lv_aload_n X.1 X.2.1 (dk T_X11_undo 21 rfl) rfl (lv_at hl 0 rfl) ?_
      refine gg X Y fl_X11_7 rfl rfl (dk T_X11_undo 22 rfl) ?_
      refine lv_iload_n X.1 X.2.1 (dk T_X11_undo 23 rfl) rfl (lv_at hl 1 rfl) ?_
      refine lv_aload_n X.1 X.2.1 (dk T_X11_undo 24 rfl) rfl (lv_at hl 0 rfl) ?_
      refine gg X Y fl_X11_19 rfl rfl (dk T_X11_undo 25 rfl) ?_
      refine lv_sipush (v := 761) X.1 X.2.1 (dk T_X11_undo 26 rfl) sp_761 ?_
      refine lv_aload_n X.1 X.2.1 (dk T_X11_undo 27 rfl) rfl (lv_at hl 0 rfl) ?_
      refine gg X Y fl_X11_79 rfl rfl (dk T_X11_undo 28 rfl) ?_
      refine lv_imul X.1 X.2.1 (dk T_X11_undo 29 rfl) ?_
      refine lv_iload_n X.1 X.2.1 (dk T_X11_undo 30 rfl) rfl (lv_at hl 1 rfl) ?_
      refine lv_iadd X.1 X.2.1 (dk T_X11_undo 31 rfl) ?_
      obtain ⟨g3, h⟩ := gd h
      refine gil X Y rfl (inp g3) (dk T_X11_undo 32 rfl) ?_
      obtain ⟨g4, h⟩ := gd h
      refine gis X Y rfl (inp g4) (dk T_X11_undo 33 rfl) (fun H locs Y => ?_)
      refine lv_iinc (v := z.1 + 1) (lv' := [(1, .int (z.1 + 1)), (0, .ref (g.2.2 (101)))]) X.1 X.2.1 (dk T_X11_undo 34 rfl) hl (k := 1) rfl (icx ic_1) (Nat.le_of_ble_eq_true rfl) rfl (fun ls hl => ?_)
      refine lv_goto (tgt := 30) X.1 X.2.1 (dk T_X11_undo 35 rfl) rfl ?_
      exact KB (z.1 + 1) (up z.2 102 z.1.toNatClampNeg (z.2 105 ((761 * (z.2 101 5)) + z.1).toNatClampNeg)) (Option.some.inj h).symm _ _ _ Y (lv_sub hl [1, 0] rfl)
def f_X11_undo_0 (σ : St) : Option (Int32 × St) :=
  if (up σ 101 0 0 101 5) = 0 then (f_X11_fails 1 (up σ 101 0 0)).bind fun q6 => some (q6.1, q6.2) else (lp (f_X11_undo_l30) FU (0, up (up σ 101 0 0) 101 5 ((up σ 101 0 0 101 5) - 1))).bind fun q5 => some (q5 101 5, q5)
set_option maxHeartbeats 4000000 in
set_option maxRecDepth 100000 in
theorem w_X11_undo_0 (X : Cx g RX11 cX11_undo 2 (some .int) p s m args meth c) (σ : St) {w : Int32 × St} (KR : ∀ (H : Heap) (locs : List Loc) (ls : Array Slot) (pc : Nat), Wd g s w.2 H locs → decode cX11_undo pc = .ok (.ireturn, 1) → W p l e (rmm 1 21) s m args below meth c H locs 0 0 Q (F0 m pc ls [.int (w.1)])) {H : Heap} {locs : List Loc} {ls : Array Slot} (Y : Wd g s σ H locs) (hl : lv_has ls 2 [(0, .ref (g.2.2 (101)))]) (h : f_X11_undo_0 σ = some w) : W p l e (rmm 1 21) s m args below meth c H locs 0 0 Q (F0 m 0 ls []) := by
  unfold f_X11_undo_0 at h
  refine lv_aload_n X.1 X.2.1 (dk T_X11_undo 0 rfl) rfl (lv_at hl 0 rfl) ?_
  refine lv_iconst (v := 0) X.1 X.2.1 (dk T_X11_undo 1 rfl) ic_0 ?_
  refine gp X Y fp_X11_71 rfl (nar_int _) (dk T_X11_undo 2 rfl) (fun H locs Y => ?_)
  refine lv_aload_n X.1 X.2.1 (dk T_X11_undo 3 rfl) rfl (lv_at hl 0 rfl) ?_
  refine gg X Y fl_X11_79 rfl rfl (dk T_X11_undo 4 rfl) ?_
  refine lv_if_ne (tgt := 18) X.1 X.2.1 (dk T_X11_undo 5 rfl) rfl (fun c1 => ?_) (fun c1 => ?_)
  · replace h := ineg c1 h
    refine lv_aload_n X.1 X.2.1 (dk T_X11_undo 10 rfl) rfl (lv_at hl 0 rfl) ?_
    refine lv_dup X.1 X.2.1 (dk T_X11_undo 11 rfl) rfl ?_
    refine gg X Y fl_X11_79 rfl rfl (dk T_X11_undo 12 rfl) ?_
    refine lv_iconst (v := 1) X.1 X.2.1 (dk T_X11_undo 13 rfl) ic_1 ?_
    refine lv_isub X.1 X.2.1 (dk T_X11_undo 14 rfl) ?_
    refine gp X Y fp_X11_79 rfl (nar_int _) (dk T_X11_undo 15 rfl) (fun H locs Y => ?_)
    refine lv_iconst (v := 0) X.1 X.2.1 (dk T_X11_undo 16 rfl) ic_0 ?_
    refine lv_istore_n (lv' := [(1, .int (0)), (0, .ref (g.2.2 (101)))]) X.1 X.2.1 (dk T_X11_undo 17 rfl) rfl hl (Nat.le_of_ble_eq_true rfl) rfl (fun ls hl => ?_)
    obtain ⟨q5, hq5, h⟩ := bs h
    refine w_X11_undo_l30 X σ (fun v e H locs ls Y hl => ?_) FU (0, up (up σ 101 0 0) 101 5 ((up σ 101 0 0 101 5) - 1)) Y (lv_sub hl [1, 0] rfl) hq5
    · obtain rfl := e
      refine lv_aload_n X.1 X.2.1 (dk T_X11_undo 36 rfl) rfl (lv_at hl 0 rfl) ?_
      refine gg X Y fl_X11_79 rfl rfl (dk T_X11_undo 37 rfl) ?_
      obtain rfl := Option.some.inj h
      exact KR _ _ _ _ Y (dk T_X11_undo 38 rfl)
  · replace h := ipos c1 h
    refine lv_aload_n X.1 X.2.1 (dk T_X11_undo 6 rfl) rfl (lv_at hl 0 rfl) ?_
    refine lv_iconst (v := 1) X.1 X.2.1 (dk T_X11_undo 7 rfl) ic_1 ?_
    obtain ⟨q6, hq6, h⟩ := bs h
    refine gvI (rest := []) X Y (c_X11_fails 1 (up σ 101 0 0) hq6) cb_X11_91 rfl hl.1 rfl rfl (Nat.le_of_ble_eq_true rfl) ⟨Nat.le_of_ble_eq_true rfl, Nat.le_of_ble_eq_true rfl⟩ (dk T_X11_undo 8 rfl) (fun H locs Y => ?_)
    obtain rfl := Option.some.inj h
    exact KR _ _ _ _ Y (dk T_X11_undo 9 rfl)
def f_X11_undo (σ : St) : Option (Int32 × St) := f_X11_undo_0 σ
set_option maxHeartbeats 4000000 in
set_option maxRecDepth 100000 in
theorem c_X11_undo {l : Launch} {g : Geo} (σ : St) {w : Int32 × St} (h : f_X11_undo σ = some w) : CtI l yX11_undo cX11_undo 2 (some .int) (rmm 1 21) g [.ref (g.2.2 (101))] σ w.1 w.2 := enI .int (by decide) rfl rfl (Nat.le_of_ble_eq_true rfl) (fun p e s m args below meth c Q X Y ls hl KR => w_X11_undo_0 X σ KR Y hl h)
def I_X11_saveSnapshot : List (Nat × Instr × Nat) := [(0, .aload_n 0, 1), (1, .iconst 0, 1), (2, .putfield 71, 3), (5, .iconst 0, 1), (6, .istore_n 1, 1), (7, .iload_n 1, 1), (8, .sipush 761, 3), (11, .if_icmp .ge 21, 3), (14, .aload_n 0, 1), (15, .getfield 13, 3), (18, .iload_n 1, 1), (19, .aload_n 0, 1), (20, .getfield 7, 3), (23, .iload_n 1, 1), (24, .iaload, 1), (25, .iastore, 1), (26, .iinc 1 1, 3), (29, .goto (-22), 3), (32, .aload_n 0, 1), (33, .iconst 1, 1), (34, .putfield 385, 3), (37, .aload_n 0, 1), (38, .getfield 7, 3), (41, .iconst 2, 1), (42, .iaload, 1), (43, .ireturn, 1)]
set_option maxRecDepth 100000 in
theorem T_X11_saveSnapshot : ∀ q ∈ I_X11_saveSnapshot, decode cX11_saveSnapshot q.1 = .ok (q.2.1, q.2.2) := by decide +kernel
def f_X11_saveSnapshot_l7 (z : Int32 × St) : Option ((Int32 × St) ⊕ (St)) :=
  if 761 ≤ z.1 then some (.inr z.2) else chk (inb z.1 761) (chk (inb z.1 761) (some (.inl (z.1 + 1, up z.2 103 z.1.toNatClampNeg (z.2 102 z.1.toNatClampNeg)))))
set_option maxHeartbeats 4000000 in
set_option maxRecDepth 100000 in
theorem w_X11_saveSnapshot_l7 (X : Cx g RX11 cX11_saveSnapshot 2 (some .int) p s m args meth c) (σ : St) {r : St} (KX0 : ∀ (v : St), r = v → ∀ (H : Heap) (locs : List Loc) (ls : Array Slot), Wd g s v H locs → lv_has ls 2 [(0, .ref (g.2.2 (101)))] → W p l e (rmm 0 0) s m args below meth c H locs 0 0 Q (F0 m 32 ls [])) : ∀ (n : Nat) (z : Int32 × St) {H : Heap} {locs : List Loc} {ls : Array Slot}, Wd g s z.2 H locs → lv_has ls 2 [(0, .ref (g.2.2 (101))), (1, .int (z.1))] → lp (f_X11_saveSnapshot_l7) n z = some r → W p l e (rmm 0 0) s m args below meth c H locs 0 0 Q (F0 m 7 ls []) := by
  intro n
  induction n with
  | zero => intro z H locs ls Y hl h; cases h
  | succ n ih =>
    intro z H locs ls Y hl h
    obtain ⟨w, h, hw⟩ := lps h
    have KB : ∀ (v0_ : Int32) (v1_ : St), w = .inl (v0_, v1_) → ∀ (H : Heap) (locs : List Loc) (ls : Array Slot), Wd g s v1_ H locs → lv_has ls 2 [(0, .ref (g.2.2 (101))), (1, .int (v0_))] → W p l e (rmm 0 0) s m args below meth c H locs 0 0 Q (F0 m 7 ls []) := fun v0_ v1_ e H locs ls Y hl => ih (v0_, v1_) Y hl (lpl hw e)
    have KX0 := fun (v : St) (e : w = .inr v) => KX0 v (lpr hw e)
    unfold f_X11_saveSnapshot_l7 at h
    refine lv_iload_n X.1 X.2.1 (dk T_X11_saveSnapshot 5 rfl) rfl (lv_at hl 1 rfl) ?_
    refine lv_sipush (v := 761) X.1 X.2.1 (dk T_X11_saveSnapshot 6 rfl) sp_761 ?_
    refine lv_icmp_ge (tgt := 32) X.1 X.2.1 (dk T_X11_saveSnapshot 7 rfl) rfl (fun c1 => ?_) (fun c1 => ?_)
    · replace h := ipos c1 h
      exact KX0 z.2 (Option.some.inj h).symm _ _ _ Y (lv_sub hl [0] rfl)
    · replace h := ineg c1 h
      refine lv_aload_n X.1 X.2.1 (dk T_X11_saveSnapshot 8 rfl) rfl (lv_at hl 0 rfl) ?_
      refine gg X Y fl_X11_13 rfl rfl (dk T_X11_saveSnapshot 9 rfl) ?_
      refine lv_iload_n X.1 X.2.1 (dk T_X11_saveSnapshot 10 rfl) rfl (lv_at hl 1 rfl) ?_
      refine lv_aload_n X.1 X.2.1 (dk T_X11_saveSnapshot 11 rfl) rfl (lv_at hl 0 rfl) ?_
      refine gg X Y fl_X11_7 rfl rfl (dk T_X11_saveSnapshot 12 rfl) ?_
      refine lv_iload_n X.1 X.2.1 (dk T_X11_saveSnapshot 13 rfl) rfl (lv_at hl 1 rfl) ?_
      obtain ⟨g2, h⟩ := gd h
      refine gil X Y rfl (inp g2) (dk T_X11_saveSnapshot 14 rfl) ?_
      obtain ⟨g3, h⟩ := gd h
      refine gis X Y rfl (inp g3) (dk T_X11_saveSnapshot 15 rfl) (fun H locs Y => ?_)
      refine lv_iinc (v := z.1 + 1) (lv' := [(1, .int (z.1 + 1)), (0, .ref (g.2.2 (101)))]) X.1 X.2.1 (dk T_X11_saveSnapshot 16 rfl) hl (k := 1) rfl (icx ic_1) (Nat.le_of_ble_eq_true rfl) rfl (fun ls hl => ?_)
      refine lv_goto (tgt := 7) X.1 X.2.1 (dk T_X11_saveSnapshot 17 rfl) rfl ?_
      exact KB (z.1 + 1) (up z.2 103 z.1.toNatClampNeg (z.2 102 z.1.toNatClampNeg)) (Option.some.inj h).symm _ _ _ Y (lv_sub hl [1, 0] rfl)
def f_X11_saveSnapshot_0 (σ : St) : Option (Int32 × St) :=
  (lp (f_X11_saveSnapshot_l7) FU (0, up σ 101 0 0)).bind fun q4 => chk (inb 2 761) (some ((up q4 101 6 1) 102 (2 : Int32).toNatClampNeg, up q4 101 6 1))
set_option maxHeartbeats 4000000 in
set_option maxRecDepth 100000 in
theorem w_X11_saveSnapshot_0 (X : Cx g RX11 cX11_saveSnapshot 2 (some .int) p s m args meth c) (σ : St) {w : Int32 × St} (KR : ∀ (H : Heap) (locs : List Loc) (ls : Array Slot) (pc : Nat), Wd g s w.2 H locs → decode cX11_saveSnapshot pc = .ok (.ireturn, 1) → W p l e (rmm 0 0) s m args below meth c H locs 0 0 Q (F0 m pc ls [.int (w.1)])) {H : Heap} {locs : List Loc} {ls : Array Slot} (Y : Wd g s σ H locs) (hl : lv_has ls 2 [(0, .ref (g.2.2 (101)))]) (h : f_X11_saveSnapshot_0 σ = some w) : W p l e (rmm 0 0) s m args below meth c H locs 0 0 Q (F0 m 0 ls []) := by
  unfold f_X11_saveSnapshot_0 at h
  refine lv_aload_n X.1 X.2.1 (dk T_X11_saveSnapshot 0 rfl) rfl (lv_at hl 0 rfl) ?_
  refine lv_iconst (v := 0) X.1 X.2.1 (dk T_X11_saveSnapshot 1 rfl) ic_0 ?_
  refine gp X Y fp_X11_71 rfl (nar_int _) (dk T_X11_saveSnapshot 2 rfl) (fun H locs Y => ?_)
  refine lv_iconst (v := 0) X.1 X.2.1 (dk T_X11_saveSnapshot 3 rfl) ic_0 ?_
  refine lv_istore_n (lv' := [(1, .int (0)), (0, .ref (g.2.2 (101)))]) X.1 X.2.1 (dk T_X11_saveSnapshot 4 rfl) rfl hl (Nat.le_of_ble_eq_true rfl) rfl (fun ls hl => ?_)
  obtain ⟨q4, hq4, h⟩ := bs h
  refine w_X11_saveSnapshot_l7 X σ (fun v e H locs ls Y hl => ?_) FU (0, up σ 101 0 0) Y (lv_sub hl [1, 0] rfl) hq4
  · obtain rfl := e
    refine lv_aload_n X.1 X.2.1 (dk T_X11_saveSnapshot 18 rfl) rfl (lv_at hl 0 rfl) ?_
    refine lv_iconst (v := 1) X.1 X.2.1 (dk T_X11_saveSnapshot 19 rfl) ic_1 ?_
    refine gp X Y fp_X11_385 rfl nar_b1 (dk T_X11_saveSnapshot 20 rfl) (fun H locs Y => ?_)
    refine lv_aload_n X.1 X.2.1 (dk T_X11_saveSnapshot 21 rfl) rfl (lv_at hl 0 rfl) ?_
    refine gg X Y fl_X11_7 rfl rfl (dk T_X11_saveSnapshot 22 rfl) ?_
    refine lv_iconst (v := 2) X.1 X.2.1 (dk T_X11_saveSnapshot 23 rfl) ic_2 ?_
    obtain ⟨g5, h⟩ := gd h
    refine gil X Y rfl (inp g5) (dk T_X11_saveSnapshot 24 rfl) ?_
    obtain rfl := Option.some.inj h
    exact KR _ _ _ _ Y (dk T_X11_saveSnapshot 25 rfl)
def f_X11_saveSnapshot (σ : St) : Option (Int32 × St) := f_X11_saveSnapshot_0 σ
set_option maxHeartbeats 4000000 in
set_option maxRecDepth 100000 in
theorem c_X11_saveSnapshot {l : Launch} {g : Geo} (σ : St) {w : Int32 × St} (h : f_X11_saveSnapshot σ = some w) : CtI l yX11_saveSnapshot cX11_saveSnapshot 2 (some .int) (rmm 0 0) g [.ref (g.2.2 (101))] σ w.1 w.2 := enI .int (by decide) rfl rfl (Nat.le_of_ble_eq_true rfl) (fun p e s m args below meth c Q X Y ls hl KR => w_X11_saveSnapshot_0 X σ KR Y hl h)
def I_X11_restoreSnapshot : List (Nat × Instr × Nat) := [(0, .aload_n 0, 1), (1, .iconst 0, 1), (2, .putfield 71, 3), (5, .aload_n 0, 1), (6, .getfield 385, 3), (9, .ifCond .ne 9, 3), (12, .aload_n 0, 1), (13, .iconst 1, 1), (14, .invokevirtual 91, 3), (17, .ireturn, 1), (18, .iconst 0, 1), (19, .istore_n 1, 1), (20, .iload_n 1, 1), (21, .sipush 761, 3), (24, .if_icmp .ge 21, 3), (27, .aload_n 0, 1), (28, .getfield 7, 3), (31, .iload_n 1, 1), (32, .aload_n 0, 1), (33, .getfield 13, 3), (36, .iload_n 1, 1), (37, .iaload, 1), (38, .iastore, 1), (39, .iinc 1 1, 3), (42, .goto (-22), 3), (45, .aload_n 0, 1), (46, .iconst 0, 1), (47, .putfield 79, 3), (50, .aload_n 0, 1), (51, .getfield 7, 3), (54, .iconst 2, 1), (55, .iaload, 1), (56, .ireturn, 1)]
set_option maxRecDepth 100000 in
theorem T_X11_restoreSnapshot : ∀ q ∈ I_X11_restoreSnapshot, decode cX11_restoreSnapshot q.1 = .ok (q.2.1, q.2.2) := by decide +kernel
def f_X11_restoreSnapshot_l20 (z : Int32 × St) : Option ((Int32 × St) ⊕ (St)) :=
  if 761 ≤ z.1 then some (.inr z.2) else chk (inb z.1 761) (chk (inb z.1 761) (some (.inl (z.1 + 1, up z.2 102 z.1.toNatClampNeg (z.2 103 z.1.toNatClampNeg)))))
set_option maxHeartbeats 4000000 in
set_option maxRecDepth 100000 in
theorem w_X11_restoreSnapshot_l20 (X : Cx g RX11 cX11_restoreSnapshot 2 (some .int) p s m args meth c) (σ : St) {r : St} (KX0 : ∀ (v : St), r = v → ∀ (H : Heap) (locs : List Loc) (ls : Array Slot), Wd g s v H locs → lv_has ls 2 [(0, .ref (g.2.2 (101)))] → W p l e (rmm 1 21) s m args below meth c H locs 0 0 Q (F0 m 45 ls [])) : ∀ (n : Nat) (z : Int32 × St) {H : Heap} {locs : List Loc} {ls : Array Slot}, Wd g s z.2 H locs → lv_has ls 2 [(0, .ref (g.2.2 (101))), (1, .int (z.1))] → lp (f_X11_restoreSnapshot_l20) n z = some r → W p l e (rmm 1 21) s m args below meth c H locs 0 0 Q (F0 m 20 ls []) := by
  intro n
  induction n with
  | zero => intro z H locs ls Y hl h; cases h
  | succ n ih =>
    intro z H locs ls Y hl h
    obtain ⟨w, h, hw⟩ := lps h
    have KB : ∀ (v0_ : Int32) (v1_ : St), w = .inl (v0_, v1_) → ∀ (H : Heap) (locs : List Loc) (ls : Array Slot), Wd g s v1_ H locs → lv_has ls 2 [(0, .ref (g.2.2 (101))), (1, .int (v0_))] → W p l e (rmm 1 21) s m args below meth c H locs 0 0 Q (F0 m 20 ls []) := fun v0_ v1_ e H locs ls Y hl => ih (v0_, v1_) Y hl (lpl hw e)
    have KX0 := fun (v : St) (e : w = .inr v) => KX0 v (lpr hw e)
    unfold f_X11_restoreSnapshot_l20 at h
    refine lv_iload_n X.1 X.2.1 (dk T_X11_restoreSnapshot 12 rfl) rfl (lv_at hl 1 rfl) ?_
    refine lv_sipush (v := 761) X.1 X.2.1 (dk T_X11_restoreSnapshot 13 rfl) sp_761 ?_
    refine lv_icmp_ge (tgt := 45) X.1 X.2.1 (dk T_X11_restoreSnapshot 14 rfl) rfl (fun c2 => ?_) (fun c2 => ?_)
    · replace h := ipos c2 h
      exact KX0 z.2 (Option.some.inj h).symm _ _ _ Y (lv_sub hl [0] rfl)
    · replace h := ineg c2 h
      refine lv_aload_n X.1 X.2.1 (dk T_X11_restoreSnapshot 15 rfl) rfl (lv_at hl 0 rfl) ?_
      refine gg X Y fl_X11_7 rfl rfl (dk T_X11_restoreSnapshot 16 rfl) ?_
      refine lv_iload_n X.1 X.2.1 (dk T_X11_restoreSnapshot 17 rfl) rfl (lv_at hl 1 rfl) ?_
      refine lv_aload_n X.1 X.2.1 (dk T_X11_restoreSnapshot 18 rfl) rfl (lv_at hl 0 rfl) ?_
      refine gg X Y fl_X11_13 rfl rfl (dk T_X11_restoreSnapshot 19 rfl) ?_
      refine lv_iload_n X.1 X.2.1 (dk T_X11_restoreSnapshot 20 rfl) rfl (lv_at hl 1 rfl) ?_
      obtain ⟨g3, h⟩ := gd h
      refine gil X Y rfl (inp g3) (dk T_X11_restoreSnapshot 21 rfl) ?_
      obtain ⟨g4, h⟩ := gd h
      refine gis X Y rfl (inp g4) (dk T_X11_restoreSnapshot 22 rfl) (fun H locs Y => ?_)
      refine lv_iinc (v := z.1 + 1) (lv' := [(1, .int (z.1 + 1)), (0, .ref (g.2.2 (101)))]) X.1 X.2.1 (dk T_X11_restoreSnapshot 23 rfl) hl (k := 1) rfl (icx ic_1) (Nat.le_of_ble_eq_true rfl) rfl (fun ls hl => ?_)
      refine lv_goto (tgt := 20) X.1 X.2.1 (dk T_X11_restoreSnapshot 24 rfl) rfl ?_
      exact KB (z.1 + 1) (up z.2 102 z.1.toNatClampNeg (z.2 103 z.1.toNatClampNeg)) (Option.some.inj h).symm _ _ _ Y (lv_sub hl [1, 0] rfl)
def f_X11_restoreSnapshot_0 (σ : St) : Option (Int32 × St) :=
  if (up σ 101 0 0 101 6) = 0 then (f_X11_fails 1 (up σ 101 0 0)).bind fun q7 => some (q7.1, q7.2) else (lp (f_X11_restoreSnapshot_l20) FU (0, up σ 101 0 0)).bind fun q5 => chk (inb 2 761) (some ((up q5 101 5 0) 102 (2 : Int32).toNatClampNeg, up q5 101 5 0))
set_option maxHeartbeats 4000000 in
set_option maxRecDepth 100000 in
theorem w_X11_restoreSnapshot_0 (X : Cx g RX11 cX11_restoreSnapshot 2 (some .int) p s m args meth c) (σ : St) {w : Int32 × St} (KR : ∀ (H : Heap) (locs : List Loc) (ls : Array Slot) (pc : Nat), Wd g s w.2 H locs → decode cX11_restoreSnapshot pc = .ok (.ireturn, 1) → W p l e (rmm 1 21) s m args below meth c H locs 0 0 Q (F0 m pc ls [.int (w.1)])) {H : Heap} {locs : List Loc} {ls : Array Slot} (Y : Wd g s σ H locs) (hl : lv_has ls 2 [(0, .ref (g.2.2 (101)))]) (h : f_X11_restoreSnapshot_0 σ = some w) : W p l e (rmm 1 21) s m args below meth c H locs 0 0 Q (F0 m 0 ls []) := by
  unfold f_X11_restoreSnapshot_0 at h
  refine lv_aload_n X.1 X.2.1 (dk T_X11_restoreSnapshot 0 rfl) rfl (lv_at hl 0 rfl) ?_
  refine lv_iconst (v := 0) X.1 X.2.1 (dk T_X11_restoreSnapshot 1 rfl) ic_0 ?_
  refine gp X Y fp_X11_71 rfl (nar_int _) (dk T_X11_restoreSnapshot 2 rfl) (fun H locs Y => ?_)
  refine lv_aload_n X.1 X.2.1 (dk T_X11_restoreSnapshot 3 rfl) rfl (lv_at hl 0 rfl) ?_
  refine gg X Y fl_X11_385 rfl rfl (dk T_X11_restoreSnapshot 4 rfl) ?_
  refine lv_if_ne (tgt := 18) X.1 X.2.1 (dk T_X11_restoreSnapshot 5 rfl) rfl (fun c1 => ?_) (fun c1 => ?_)
  · replace h := ineg c1 h
    refine lv_iconst (v := 0) X.1 X.2.1 (dk T_X11_restoreSnapshot 10 rfl) ic_0 ?_
    refine lv_istore_n (lv' := [(1, .int (0)), (0, .ref (g.2.2 (101)))]) X.1 X.2.1 (dk T_X11_restoreSnapshot 11 rfl) rfl hl (Nat.le_of_ble_eq_true rfl) rfl (fun ls hl => ?_)
    obtain ⟨q5, hq5, h⟩ := bs h
    refine w_X11_restoreSnapshot_l20 X σ (fun v e H locs ls Y hl => ?_) FU (0, up σ 101 0 0) Y (lv_sub hl [1, 0] rfl) hq5
    · obtain rfl := e
      refine lv_aload_n X.1 X.2.1 (dk T_X11_restoreSnapshot 25 rfl) rfl (lv_at hl 0 rfl) ?_
      refine lv_iconst (v := 0) X.1 X.2.1 (dk T_X11_restoreSnapshot 26 rfl) ic_0 ?_
      refine gp X Y fp_X11_79 rfl (nar_int _) (dk T_X11_restoreSnapshot 27 rfl) (fun H locs Y => ?_)
      refine lv_aload_n X.1 X.2.1 (dk T_X11_restoreSnapshot 28 rfl) rfl (lv_at hl 0 rfl) ?_
      refine gg X Y fl_X11_7 rfl rfl (dk T_X11_restoreSnapshot 29 rfl) ?_
      refine lv_iconst (v := 2) X.1 X.2.1 (dk T_X11_restoreSnapshot 30 rfl) ic_2 ?_
      obtain ⟨g6, h⟩ := gd h
      refine gil X Y rfl (inp g6) (dk T_X11_restoreSnapshot 31 rfl) ?_
      obtain rfl := Option.some.inj h
      exact KR _ _ _ _ Y (dk T_X11_restoreSnapshot 32 rfl)
  · replace h := ipos c1 h
    refine lv_aload_n X.1 X.2.1 (dk T_X11_restoreSnapshot 6 rfl) rfl (lv_at hl 0 rfl) ?_
    refine lv_iconst (v := 1) X.1 X.2.1 (dk T_X11_restoreSnapshot 7 rfl) ic_1 ?_
    obtain ⟨q7, hq7, h⟩ := bs h
    refine gvI (rest := []) X Y (c_X11_fails 1 (up σ 101 0 0) hq7) cb_X11_91 rfl hl.1 rfl rfl (Nat.le_of_ble_eq_true rfl) ⟨Nat.le_of_ble_eq_true rfl, Nat.le_of_ble_eq_true rfl⟩ (dk T_X11_restoreSnapshot 8 rfl) (fun H locs Y => ?_)
    obtain rfl := Option.some.inj h
    exact KR _ _ _ _ Y (dk T_X11_restoreSnapshot 9 rfl)
def f_X11_restoreSnapshot (σ : St) : Option (Int32 × St) := f_X11_restoreSnapshot_0 σ
set_option maxHeartbeats 4000000 in
set_option maxRecDepth 100000 in
theorem c_X11_restoreSnapshot {l : Launch} {g : Geo} (σ : St) {w : Int32 × St} (h : f_X11_restoreSnapshot σ = some w) : CtI l yX11_restoreSnapshot cX11_restoreSnapshot 2 (some .int) (rmm 1 21) g [.ref (g.2.2 (101))] σ w.1 w.2 := enI .int (by decide) rfl rfl (Nat.le_of_ble_eq_true rfl) (fun p e s m args below meth c Q X Y ls hl KR => w_X11_restoreSnapshot_0 X σ KR Y hl h)
end
