theorem bp_20 : (Int8.ofInt 20).toInt32 = 20 := by decide
theorem cb_X10_97 : CBV RX10 97 yX9_isFull cX9_isFull 1 (some .boolean) 0 10 := ⟨⟨mw 5 20 rfl rfl, mw 1 24 rfl rfl, mw 5 23 rfl rfl, by decide, by decide, by decide +kernel⟩, mw 5 21 rfl rfl, mw 5 22 rfl rfl, TX9, 3, tyX9, cl_X9⟩
theorem cb_X10_156 : CBV RX10 156 yX9_get cX9_get 4 (some .int) 2 10 := ⟨⟨mw 13 11 rfl rfl, mw 1 24 rfl rfl, mw 11 5 rfl rfl, by decide, by decide, by decide +kernel⟩, mw 11 3 rfl rfl, mw 11 4 rfl rfl, TX9, 3, tyX9, cl_X9⟩
theorem cb_X10_166 : CBV RX10 166 yX9_rowsWith cX9_rowsWith 5 (some .int) 2 10 := ⟨⟨mw 13 17 rfl rfl, mw 1 24 rfl rfl, mw 13 20 rfl rfl, by decide, by decide, by decide +kernel⟩, mw 13 18 rfl rfl, mw 13 19 rfl rfl, TX9, 3, tyX9, cl_X9⟩
theorem cb_X10_169 : CBV RX10 169 yX8_cutsOn cX8_cutsOn 7 (some .int) 2 9 := ⟨⟨mw 13 22 rfl rfl, mw 0 16 rfl rfl, mw 13 25 rfl rfl, by decide, by decide, by decide +kernel⟩, mw 13 23 rfl rfl, mw 13 24 rfl rfl, TX8, 3, tyX8, cl_X8⟩
theorem cb_X10_209 : CBV RX10 209 yX9_size cX9_size 1 (some .int) 0 10 := ⟨⟨mw 22 8 rfl rfl, mw 1 24 rfl rfl, mw 22 7 rfl rfl, by decide, by decide, by decide +kernel⟩, mw 22 5 rfl rfl, mw 22 6 rfl rfl, TX9, 3, tyX9, cl_X9⟩
theorem cb_X10_277 : CBV RX10 277 yX8_cellsOf cX8_cellsOf 2 (some .int) 1 9 := ⟨⟨mw 10 26 rfl rfl, mw 0 16 rfl rfl, mw 10 29 rfl rfl, by decide, by decide, by decide +kernel⟩, mw 10 27 rfl rfl, mw 10 28 rfl rfl, TX8, 3, tyX8, cl_X8⟩
theorem cb_X10_300 : CBV RX10 300 yX0_clear cX0_clear 1 none 0 2 := ⟨⟨mw 19 2 rfl rfl, mw 0 26 rfl rfl, mw 19 5 rfl rfl, by decide, by decide, by decide +kernel⟩, mw 19 3 rfl rfl, mw 19 4 rfl rfl, TX0, 3, tyX0, cl_X0⟩
theorem cb_X10_318 : CBV RX10 318 yX8_copyFrom cX8_copyFrom 2 none 1 9 := ⟨⟨mw 37 6 rfl rfl, mw 0 16 rfl rfl, mw 6 7 rfl rfl, by decide, by decide, by decide +kernel⟩, mw 6 5 rfl rfl, mw 6 6 rfl rfl, TX8, 3, tyX8, cl_X8⟩
theorem cb_X10_351 : CBV RX10 351 yX8_grainAllows cX8_grainAllows 7 (some .boolean) 3 9 := ⟨⟨mw 18 26 rfl rfl, mw 0 16 rfl rfl, mw 18 29 rfl rfl, by decide, by decide, by decide +kernel⟩, mw 18 27 rfl rfl, mw 18 28 rfl rfl, TX8, 3, tyX8, cl_X8⟩
theorem cb_X10_354 : CBV RX10 354 yX10_refuse cX10_refuse 4 (some .boolean) 3 11 := ⟨⟨mw 18 30 rfl rfl, mw 0 2 rfl rfl, mw 19 1 rfl rfl, by decide, by decide, by decide +kernel⟩, mw 18 31 rfl rfl, mw 19 0 rfl rfl, TX10, 12, tyX10, cl_X10⟩
theorem cb_X10_357 : CBV RX10 357 yX1_isFitting cX1_isFitting 11 (some .boolean) 6 3 := ⟨⟨mw 19 10 rfl rfl, mw 0 31 rfl rfl, mw 19 13 rfl rfl, by decide, by decide, by decide +kernel⟩, mw 19 11 rfl rfl, mw 19 12 rfl rfl, TX1, 3, tyX1, cl_X1⟩
theorem cb_X10_361 : CBV RX10 361 yX1_blockedNumber cX1_blockedNumber 1 (some .int) 0 3 := ⟨⟨mw 20 3 rfl rfl, mw 0 31 rfl rfl, mw 20 6 rfl rfl, by decide, by decide, by decide +kernel⟩, mw 20 4 rfl rfl, mw 20 5 rfl rfl, TX1, 3, tyX1, cl_X1⟩
theorem cb_X10_364 : CBV RX10 364 yX1_blockKind cX1_blockKind 1 (some .int) 0 3 := ⟨⟨mw 20 7 rfl rfl, mw 0 31 rfl rfl, mw 20 10 rfl rfl, by decide, by decide, by decide +kernel⟩, mw 20 8 rfl rfl, mw 20 9 rfl rfl, TX1, 3, tyX1, cl_X1⟩
theorem cb_X10_367 : CBV RX10 367 yX1_blockPlace cX1_blockPlace 1 (some .int) 0 3 := ⟨⟨mw 20 11 rfl rfl, mw 0 31 rfl rfl, mw 20 14 rfl rfl, by decide, by decide, by decide +kernel⟩, mw 20 12 rfl rfl, mw 20 13 rfl rfl, TX1, 3, tyX1, cl_X1⟩
theorem cb_X10_370 : CBV RX10 370 yX0_add cX0_add 3 none 2 2 := ⟨⟨mw 19 6 rfl rfl, mw 0 26 rfl rfl, mw 19 9 rfl rfl, by decide, by decide, by decide +kernel⟩, mw 19 7 rfl rfl, mw 19 8 rfl rfl, TX0, 3, tyX0, cl_X0⟩
theorem cb_X10_373 : CBV RX10 373 yX6_itemsBefore cX6_itemsBefore 1 (some .int) 0 7 := ⟨⟨mw 38 20 rfl rfl, mw 1 15 rfl rfl, mw 38 23 rfl rfl, by decide, by decide, by decide +kernel⟩, mw 38 21 rfl rfl, mw 38 22 rfl rfl, TX6, 15, tyX6, cl_X6⟩
theorem cb_X10_376 : CBV RX10 376 yX6_position cX6_position 1 (some .int) 0 7 := ⟨⟨mw 38 24 rfl rfl, mw 1 15 rfl rfl, mw 38 27 rfl rfl, by decide, by decide, by decide +kernel⟩, mw 38 25 rfl rfl, mw 38 26 rfl rfl, TX6, 15, tyX6, cl_X6⟩
section
variable {p : Program} {l : Launch} {e : Env} {s : State} {m : MethodId} {args : Array Value} {below : List Frame} {meth : Method} {c : Code} {Q : State → Prop} {g : Geo}
def I_X10_refuse : List (Nat × Instr × Nat) := [(0, .aload_n 0, 1), (1, .getfield 32, 3), (4, .invokevirtual 300, 3), (7, .aload_n 0, 1), (8, .getfield 32, 3), (11, .iconst 1, 1), (12, .iload_n 1, 1), (13, .invokevirtual 370, 3), (16, .aload_n 0, 1), (17, .getfield 32, 3), (20, .iload_n 2, 1), (21, .iload_n 3, 1), (22, .invokevirtual 370, 3), (25, .iconst 0, 1), (26, .ireturn, 1)]
set_option maxRecDepth 100000 in
theorem T_X10_refuse : ∀ q ∈ I_X10_refuse, decode cX10_refuse q.1 = .ok (q.2.1, q.2.2) := by decide +kernel
def f_X10_refuse_0 (x1 : Int32) (x2 : Int32) (x3 : Int32) (σ : St) : Option (Int32 × St) :=
  (f_X0_clear 80 σ).bind fun q1 => (f_X0_add 80 1 x1 q1).bind fun q2 => (f_X0_add 80 x2 x3 q2).bind fun q3 => some (0, q3)
set_option maxHeartbeats 4000000 in
set_option maxRecDepth 100000 in
theorem w_X10_refuse_0 (X : Cx g RX10 cX10_refuse 4 (some .boolean) p s m args meth c) (x1 : Int32) (x2 : Int32) (x3 : Int32) (σ : St) {w : Int32 × St} (KR : ∀ (H : Heap) (locs : List Loc) (ls : Array Slot) (pc : Nat), Wd g s w.2 H locs → decode cX10_refuse pc = .ok (.ireturn, 1) → W p l e (rmm 2 44) s m args below meth c H locs 0 0 Q (F0 m pc ls [.int (w.1)])) {H : Heap} {locs : List Loc} {ls : Array Slot} (Y : Wd g s σ H locs) (hl : lv_has ls 4 [(0, .ref (g.2.2 (0))), (1, .int (x1)), (2, .int (x2)), (3, .int (x3))]) (h : f_X10_refuse_0 x1 x2 x3 σ = some w) : W p l e (rmm 2 44) s m args below meth c H locs 0 0 Q (F0 m 0 ls []) := by
  unfold f_X10_refuse_0 at h
  refine lv_aload_n X.1 X.2.1 (dk T_X10_refuse 0 rfl) rfl (lv_at hl 0 rfl) ?_
  refine gg X Y fl_X10_32 rfl rfl (dk T_X10_refuse 1 rfl) ?_
  obtain ⟨q1, hq1, h⟩ := bs h
  refine gvV (rest := []) X Y (c_X0_clear 80 rfl σ hq1) cb_X10_300 rfl hl.1 rfl rfl (Nat.le_of_ble_eq_true rfl) ⟨Nat.le_of_ble_eq_true rfl, Nat.le_of_ble_eq_true rfl⟩ (dk T_X10_refuse 2 rfl) (fun H locs Y => ?_)
  refine lv_aload_n X.1 X.2.1 (dk T_X10_refuse 3 rfl) rfl (lv_at hl 0 rfl) ?_
  refine gg X Y fl_X10_32 rfl rfl (dk T_X10_refuse 4 rfl) ?_
  refine lv_iconst (v := 1) X.1 X.2.1 (dk T_X10_refuse 5 rfl) ic_1 ?_
  refine lv_iload_n X.1 X.2.1 (dk T_X10_refuse 6 rfl) rfl (lv_at hl 1 rfl) ?_
  obtain ⟨q2, hq2, h⟩ := bs h
  refine gvV (rest := []) X Y (c_X0_add 80 rfl 1 x1 q1 hq2) cb_X10_370 rfl hl.1 rfl rfl (Nat.le_of_ble_eq_true rfl) ⟨Nat.le_of_ble_eq_true rfl, Nat.le_of_ble_eq_true rfl⟩ (dk T_X10_refuse 7 rfl) (fun H locs Y => ?_)
  refine lv_aload_n X.1 X.2.1 (dk T_X10_refuse 8 rfl) rfl (lv_at hl 0 rfl) ?_
  refine gg X Y fl_X10_32 rfl rfl (dk T_X10_refuse 9 rfl) ?_
  refine lv_iload_n X.1 X.2.1 (dk T_X10_refuse 10 rfl) rfl (lv_at hl 2 rfl) ?_
  refine lv_iload_n X.1 X.2.1 (dk T_X10_refuse 11 rfl) rfl (lv_at hl 3 rfl) ?_
  obtain ⟨q3, hq3, h⟩ := bs h
  refine gvV (rest := []) X Y (c_X0_add 80 rfl x2 x3 q2 hq3) cb_X10_370 rfl hl.1 rfl rfl (Nat.le_of_ble_eq_true rfl) ⟨Nat.le_of_ble_eq_true rfl, Nat.le_of_ble_eq_true rfl⟩ (dk T_X10_refuse 12 rfl) (fun H locs Y => ?_)
  refine lv_iconst (v := 0) X.1 X.2.1 (dk T_X10_refuse 13 rfl) ic_0 ?_
  obtain rfl := Option.some.inj h
  exact KR _ _ _ _ Y (dk T_X10_refuse 14 rfl)
def f_X10_refuse (x1 : Int32) (x2 : Int32) (x3 : Int32) (σ : St) : Option (Int32 × St) := bzW (f_X10_refuse_0 x1 x2 x3 σ)
set_option maxHeartbeats 4000000 in
set_option maxRecDepth 100000 in
theorem c_X10_refuse {l : Launch} {g : Geo} (x1 : Int32) (x2 : Int32) (x3 : Int32) (σ : St) {w : Int32 × St} (h : f_X10_refuse x1 x2 x3 σ = some w) : CtI l yX10_refuse cX10_refuse 4 (some .boolean) (rmm 2 44) g [.ref (g.2.2 (0)), .int (x1), .int (x2), .int (x3)] σ w.1 w.2 := by
  obtain ⟨h, hz⟩ := bzW_s h
  exact enI .boolean (by decide) rfl (bz_n hz) (Nat.le_of_ble_eq_true rfl) (fun p e s m args below meth c Q X Y ls hl KR => w_X10_refuse_0 X x1 x2 x3 σ KR Y hl h)
def I_X10_isAdmitted : List (Nat × Instr × Nat) := [(0, .aload_n 0, 1), (1, .getfield 12, 3), (4, .iload_n 1, 1), (5, .iload_n 2, 1), (6, .iload 5, 2), (8, .invokevirtual 351, 3), (11, .ifCond .ne 12, 3), (14, .aload_n 0, 1), (15, .iload_n 1, 1), (16, .iconst 2, 1), (17, .iload 5, 2), (19, .invokevirtual 354, 3), (22, .ireturn, 1), (23, .aload_n 0, 1), (24, .getfield 12, 3), (27, .getfield 123, 3), (30, .iload_n 1, 1), (31, .iconst 4, 1), (32, .invokevirtual 156, 3), (35, .iconst 1, 1), (36, .if_icmp .ge 22, 3), (39, .aload_n 0, 1), (40, .iload_n 1, 1), (41, .iconst 3, 1), (42, .aload_n 0, 1), (43, .getfield 12, 3), (46, .getfield 163, 3), (49, .iconst 0, 1), (50, .iload_n 1, 1), (51, .invokevirtual 166, 3), (54, .invokevirtual 354, 3), (57, .ireturn, 1), (58, .aload_n 0, 1), (59, .getfield 12, 3), (62, .getfield 163, 3), (65, .invokevirtual 97, 3), (68, .ifCond .eq 12, 3), (71, .aload_n 0, 1), (72, .iload_n 1, 1), (73, .iconst 4, 1), (74, .bipush 20, 2), (76, .invokevirtual 354, 3), (79, .ireturn, 1), (80, .aload_n 0, 1), (81, .getfield 42, 3), (84, .aload_n 0, 1), (85, .getfield 12, 3), (88, .iload_n 1, 1), (89, .iload_n 2, 1), (90, .iload_n 3, 1), (91, .iload 4, 2), (93, .iload 5, 2), (95, .invokevirtual 357, 3), (98, .ifCond .ne 40, 3), (101, .aload_n 0, 1), (102, .iload_n 1, 1), (103, .iconst 5, 1), (104, .aload_n 0, 1), (105, .getfield 42, 3), (108, .invokevirtual 361, 3), (111, .invokevirtual 354, 3), (114, .pop, 1), (115, .aload_n 0, 1), (116, .getfield 32, 3), (119, .aload_n 0, 1), (120, .getfield 42, 3), (123, .invokevirtual 364, 3), (126, .aload_n 0, 1), (127, .getfield 42, 3), (130, .invokevirtual 367, 3), (133, .invokevirtual 370, 3), (136, .iconst 0, 1), (137, .ireturn, 1), (138, .iconst 1, 1), (139, .ireturn, 1)]
set_option maxRecDepth 100000 in
theorem T_X10_isAdmitted : ∀ q ∈ I_X10_isAdmitted, decode cX10_isAdmitted q.1 = .ok (q.2.1, q.2.2) := by decide +kernel
def f_X10_isAdmitted_0 (x1 : Int32) (x2 : Int32) (x3 : Int32) (x4 : Int32) (x5 : Int32) (σ : St) : Option (Int32 × St) :=
  (f_X8_grainAllows 1 x1 x2 x5 σ).bind fun q1 => if q1 = 0 then (f_X10_refuse x1 2 x5 σ).bind fun q17 => some (q17.1, q17.2) else (f_X9_get 4 x1 4 σ).bind fun q3 => if 1 ≤ q3 then (f_X9_isFull 6 σ).bind fun q5 => if q5 = 0 then (f_X1_isFitting 86 1 x1 x2 x3 x4 x5 σ).bind fun q7 => if q7.1 = 0 then (f_X1_blockedNumber 86 q7.2).bind fun q9 => (f_X10_refuse x1 5 q9 q7.2).bind fun q10 => (f_X1_blockKind 86 q10.2).bind fun q11 => (f_X1_blockPlace 86 q10.2).bind fun q12 => (f_X0_add 80 q11 q12 q10.2).bind fun q13 => some (0, q13) else some (1, q7.2) else (f_X10_refuse x1 4 20 σ).bind fun q14 => some (q14.1, q14.2) else (f_X9_rowsWith 6 0 x1 σ).bind fun q15 => (f_X10_refuse x1 3 q15 σ).bind fun q16 => some (q16.1, q16.2)
set_option maxHeartbeats 4000000 in
set_option maxRecDepth 100000 in
theorem w_X10_isAdmitted_0 (X : Cx g RX10 cX10_isAdmitted 6 (some .boolean) p s m args meth c) (x1 : Int32) (x2 : Int32) (x3 : Int32) (x4 : Int32) (x5 : Int32) (σ : St) {w : Int32 × St} (KR : ∀ (H : Heap) (locs : List Loc) (ls : Array Slot) (pc : Nat), Wd g s w.2 H locs → decode cX10_isAdmitted pc = .ok (.ireturn, 1) → W p l e (rmm 4 105) s m args below meth c H locs 0 0 Q (F0 m pc ls [.int (w.1)])) {H : Heap} {locs : List Loc} {ls : Array Slot} (Y : Wd g s σ H locs) (hl : lv_has ls 6 [(0, .ref (g.2.2 (0))), (1, .int (x1)), (2, .int (x2)), (3, .int (x3)), (4, .int (x4)), (5, .int (x5))]) (h : f_X10_isAdmitted_0 x1 x2 x3 x4 x5 σ = some w) : W p l e (rmm 4 105) s m args below meth c H locs 0 0 Q (F0 m 0 ls []) := by
  unfold f_X10_isAdmitted_0 at h
  refine lv_aload_n X.1 X.2.1 (dk T_X10_isAdmitted 0 rfl) rfl (lv_at hl 0 rfl) ?_
  refine gg X Y fl_X10_12 rfl rfl (dk T_X10_isAdmitted 1 rfl) ?_
  refine lv_iload_n X.1 X.2.1 (dk T_X10_isAdmitted 2 rfl) rfl (lv_at hl 1 rfl) ?_
  refine lv_iload_n X.1 X.2.1 (dk T_X10_isAdmitted 3 rfl) rfl (lv_at hl 2 rfl) ?_
  refine lv_iload X.1 X.2.1 (dk T_X10_isAdmitted 4 rfl) (lv_at hl 5 rfl) ?_
  obtain ⟨q1, hq1, h⟩ := bs h
  refine gvI (rest := []) X Y (c_X8_grainAllows 1 rfl x1 x2 x5 σ hq1) cb_X10_351 rfl hl.1 rfl rfl (Nat.le_of_ble_eq_true rfl) ⟨Nat.le_of_ble_eq_true rfl, Nat.le_of_ble_eq_true rfl⟩ (dk T_X10_isAdmitted 5 rfl) (fun H locs Y => ?_)
  refine lv_if_ne (tgt := 23) X.1 X.2.1 (dk T_X10_isAdmitted 6 rfl) rfl (fun c2 => ?_) (fun c2 => ?_)
  · replace h := ineg c2 h
    refine lv_aload_n X.1 X.2.1 (dk T_X10_isAdmitted 13 rfl) rfl (lv_at hl 0 rfl) ?_
    refine gg X Y fl_X10_12 rfl rfl (dk T_X10_isAdmitted 14 rfl) ?_
    refine ggN X Y fl_X10_123 rfl rfl (dk T_X10_isAdmitted 15 rfl) ?_
    refine lv_iload_n X.1 X.2.1 (dk T_X10_isAdmitted 16 rfl) rfl (lv_at hl 1 rfl) ?_
    refine lv_iconst (v := 4) X.1 X.2.1 (dk T_X10_isAdmitted 17 rfl) ic_4 ?_
    obtain ⟨q3, hq3, h⟩ := bs h
    refine gvI (rest := []) X Y (c_X9_get 4 rfl x1 4 σ hq3) cb_X10_156 rfl hl.1 rfl rfl (Nat.le_of_ble_eq_true rfl) ⟨Nat.le_of_ble_eq_true rfl, Nat.le_of_ble_eq_true rfl⟩ (dk T_X10_isAdmitted 18 rfl) (fun H locs Y => ?_)
    refine lv_iconst (v := 1) X.1 X.2.1 (dk T_X10_isAdmitted 19 rfl) ic_1 ?_
    refine lv_icmp_ge (tgt := 58) X.1 X.2.1 (dk T_X10_isAdmitted 20 rfl) rfl (fun c4 => ?_) (fun c4 => ?_)
    · replace h := ipos c4 h
      refine lv_aload_n X.1 X.2.1 (dk T_X10_isAdmitted 32 rfl) rfl (lv_at hl 0 rfl) ?_
      refine gg X Y fl_X10_12 rfl rfl (dk T_X10_isAdmitted 33 rfl) ?_
      refine ggN X Y fl_X10_163 rfl rfl (dk T_X10_isAdmitted 34 rfl) ?_
      obtain ⟨q5, hq5, h⟩ := bs h
      refine gvI (rest := []) X Y (c_X9_isFull 6 rfl σ hq5) cb_X10_97 rfl hl.1 rfl rfl (Nat.le_of_ble_eq_true rfl) ⟨Nat.le_of_ble_eq_true rfl, Nat.le_of_ble_eq_true rfl⟩ (dk T_X10_isAdmitted 35 rfl) (fun H locs Y => ?_)
      refine lv_if_eq (tgt := 80) X.1 X.2.1 (dk T_X10_isAdmitted 36 rfl) rfl (fun c6 => ?_) (fun c6 => ?_)
      · replace h := ipos c6 h
        refine lv_aload_n X.1 X.2.1 (dk T_X10_isAdmitted 43 rfl) rfl (lv_at hl 0 rfl) ?_
        refine gg X Y fl_X10_42 rfl rfl (dk T_X10_isAdmitted 44 rfl) ?_
        refine lv_aload_n X.1 X.2.1 (dk T_X10_isAdmitted 45 rfl) rfl (lv_at hl 0 rfl) ?_
        refine gg X Y fl_X10_12 rfl rfl (dk T_X10_isAdmitted 46 rfl) ?_
        refine lv_iload_n X.1 X.2.1 (dk T_X10_isAdmitted 47 rfl) rfl (lv_at hl 1 rfl) ?_
        refine lv_iload_n X.1 X.2.1 (dk T_X10_isAdmitted 48 rfl) rfl (lv_at hl 2 rfl) ?_
        refine lv_iload_n X.1 X.2.1 (dk T_X10_isAdmitted 49 rfl) rfl (lv_at hl 3 rfl) ?_
        refine lv_iload X.1 X.2.1 (dk T_X10_isAdmitted 50 rfl) (lv_at hl 4 rfl) ?_
        refine lv_iload X.1 X.2.1 (dk T_X10_isAdmitted 51 rfl) (lv_at hl 5 rfl) ?_
        obtain ⟨q7, hq7, h⟩ := bs h
        refine gvI (rest := []) X Y (c_X1_isFitting 86 1 rfl rfl x1 x2 x3 x4 x5 σ hq7) cb_X10_357 rfl hl.1 rfl rfl (Nat.le_of_ble_eq_true rfl) ⟨Nat.le_of_ble_eq_true rfl, Nat.le_of_ble_eq_true rfl⟩ (dk T_X10_isAdmitted 52 rfl) (fun H locs Y => ?_)
        refine lv_if_ne (tgt := 138) X.1 X.2.1 (dk T_X10_isAdmitted 53 rfl) rfl (fun c8 => ?_) (fun c8 => ?_)
        · replace h := ineg c8 h
          refine lv_iconst (v := 1) X.1 X.2.1 (dk T_X10_isAdmitted 73 rfl) ic_1 ?_
          obtain rfl := Option.some.inj h
          exact KR _ _ _ _ Y (dk T_X10_isAdmitted 74 rfl)
        · replace h := ipos c8 h
          refine lv_aload_n X.1 X.2.1 (dk T_X10_isAdmitted 54 rfl) rfl (lv_at hl 0 rfl) ?_
          refine lv_iload_n X.1 X.2.1 (dk T_X10_isAdmitted 55 rfl) rfl (lv_at hl 1 rfl) ?_
          refine lv_iconst (v := 5) X.1 X.2.1 (dk T_X10_isAdmitted 56 rfl) ic_5 ?_
          refine lv_aload_n X.1 X.2.1 (dk T_X10_isAdmitted 57 rfl) rfl (lv_at hl 0 rfl) ?_
          refine gg X Y fl_X10_42 rfl rfl (dk T_X10_isAdmitted 58 rfl) ?_
          obtain ⟨q9, hq9, h⟩ := bs h
          refine gvI (rest := [.int (5), .int (x1), .ref (g.2.2 (0))]) X Y (c_X1_blockedNumber 86 rfl q7.2 hq9) cb_X10_361 rfl hl.1 rfl rfl (Nat.le_of_ble_eq_true rfl) ⟨Nat.le_of_ble_eq_true rfl, Nat.le_of_ble_eq_true rfl⟩ (dk T_X10_isAdmitted 59 rfl) (fun H locs Y => ?_)
          obtain ⟨q10, hq10, h⟩ := bs h
          refine gvI (rest := []) X Y (c_X10_refuse x1 5 q9 q7.2 hq10) cb_X10_354 rfl hl.1 rfl rfl (Nat.le_of_ble_eq_true rfl) ⟨Nat.le_of_ble_eq_true rfl, Nat.le_of_ble_eq_true rfl⟩ (dk T_X10_isAdmitted 60 rfl) (fun H locs Y => ?_)
          refine lv_pop X.1 X.2.1 (dk T_X10_isAdmitted 61 rfl) rfl ?_
          refine lv_aload_n X.1 X.2.1 (dk T_X10_isAdmitted 62 rfl) rfl (lv_at hl 0 rfl) ?_
          refine gg X Y fl_X10_32 rfl rfl (dk T_X10_isAdmitted 63 rfl) ?_
          refine lv_aload_n X.1 X.2.1 (dk T_X10_isAdmitted 64 rfl) rfl (lv_at hl 0 rfl) ?_
          refine gg X Y fl_X10_42 rfl rfl (dk T_X10_isAdmitted 65 rfl) ?_
          obtain ⟨q11, hq11, h⟩ := bs h
          refine gvI (rest := [.ref (g.2.2 (80))]) X Y (c_X1_blockKind 86 rfl q10.2 hq11) cb_X10_364 rfl hl.1 rfl rfl (Nat.le_of_ble_eq_true rfl) ⟨Nat.le_of_ble_eq_true rfl, Nat.le_of_ble_eq_true rfl⟩ (dk T_X10_isAdmitted 66 rfl) (fun H locs Y => ?_)
          refine lv_aload_n X.1 X.2.1 (dk T_X10_isAdmitted 67 rfl) rfl (lv_at hl 0 rfl) ?_
          refine gg X Y fl_X10_42 rfl rfl (dk T_X10_isAdmitted 68 rfl) ?_
          obtain ⟨q12, hq12, h⟩ := bs h
          refine gvI (rest := [.int (q11), .ref (g.2.2 (80))]) X Y (c_X1_blockPlace 86 rfl q10.2 hq12) cb_X10_367 rfl hl.1 rfl rfl (Nat.le_of_ble_eq_true rfl) ⟨Nat.le_of_ble_eq_true rfl, Nat.le_of_ble_eq_true rfl⟩ (dk T_X10_isAdmitted 69 rfl) (fun H locs Y => ?_)
          obtain ⟨q13, hq13, h⟩ := bs h
          refine gvV (rest := []) X Y (c_X0_add 80 rfl q11 q12 q10.2 hq13) cb_X10_370 rfl hl.1 rfl rfl (Nat.le_of_ble_eq_true rfl) ⟨Nat.le_of_ble_eq_true rfl, Nat.le_of_ble_eq_true rfl⟩ (dk T_X10_isAdmitted 70 rfl) (fun H locs Y => ?_)
          refine lv_iconst (v := 0) X.1 X.2.1 (dk T_X10_isAdmitted 71 rfl) ic_0 ?_
          obtain rfl := Option.some.inj h
          exact KR _ _ _ _ Y (dk T_X10_isAdmitted 72 rfl)
      · replace h := ineg c6 h
        refine lv_aload_n X.1 X.2.1 (dk T_X10_isAdmitted 37 rfl) rfl (lv_at hl 0 rfl) ?_
        refine lv_iload_n X.1 X.2.1 (dk T_X10_isAdmitted 38 rfl) rfl (lv_at hl 1 rfl) ?_
        refine lv_iconst (v := 4) X.1 X.2.1 (dk T_X10_isAdmitted 39 rfl) ic_4 ?_
        refine lv_bipush (v := 20) X.1 X.2.1 (dk T_X10_isAdmitted 40 rfl) bp_20 ?_
        obtain ⟨q14, hq14, h⟩ := bs h
        refine gvI (rest := []) X Y (c_X10_refuse x1 4 20 σ hq14) cb_X10_354 rfl hl.1 rfl rfl (Nat.le_of_ble_eq_true rfl) ⟨Nat.le_of_ble_eq_true rfl, Nat.le_of_ble_eq_true rfl⟩ (dk T_X10_isAdmitted 41 rfl) (fun H locs Y => ?_)
        obtain rfl := Option.some.inj h
        exact KR _ _ _ _ Y (dk T_X10_isAdmitted 42 rfl)
    · replace h := ineg c4 h
      refine lv_aload_n X.1 X.2.1 (dk T_X10_isAdmitted 21 rfl) rfl (lv_at hl 0 rfl) ?_
      refine lv_iload_n X.1 X.2.1 (dk T_X10_isAdmitted 22 rfl) rfl (lv_at hl 1 rfl) ?_
      refine lv_iconst (v := 3) X.1 X.2.1 (dk T_X10_isAdmitted 23 rfl) ic_3 ?_
      refine lv_aload_n X.1 X.2.1 (dk T_X10_isAdmitted 24 rfl) rfl (lv_at hl 0 rfl) ?_
      refine gg X Y fl_X10_12 rfl rfl (dk T_X10_isAdmitted 25 rfl) ?_
      refine ggN X Y fl_X10_163 rfl rfl (dk T_X10_isAdmitted 26 rfl) ?_
      refine lv_iconst (v := 0) X.1 X.2.1 (dk T_X10_isAdmitted 27 rfl) ic_0 ?_
      refine lv_iload_n X.1 X.2.1 (dk T_X10_isAdmitted 28 rfl) rfl (lv_at hl 1 rfl) ?_
      obtain ⟨q15, hq15, h⟩ := bs h
      refine gvI (rest := [.int (3), .int (x1), .ref (g.2.2 (0))]) X Y (c_X9_rowsWith 6 rfl 0 x1 σ hq15) cb_X10_166 rfl hl.1 rfl rfl (Nat.le_of_ble_eq_true rfl) ⟨Nat.le_of_ble_eq_true rfl, Nat.le_of_ble_eq_true rfl⟩ (dk T_X10_isAdmitted 29 rfl) (fun H locs Y => ?_)
      obtain ⟨q16, hq16, h⟩ := bs h
      refine gvI (rest := []) X Y (c_X10_refuse x1 3 q15 σ hq16) cb_X10_354 rfl hl.1 rfl rfl (Nat.le_of_ble_eq_true rfl) ⟨Nat.le_of_ble_eq_true rfl, Nat.le_of_ble_eq_true rfl⟩ (dk T_X10_isAdmitted 30 rfl) (fun H locs Y => ?_)
      obtain rfl := Option.some.inj h
      exact KR _ _ _ _ Y (dk T_X10_isAdmitted 31 rfl)
  · replace h := ipos c2 h
    refine lv_aload_n X.1 X.2.1 (dk T_X10_isAdmitted 7 rfl) rfl (lv_at hl 0 rfl) ?_
    refine lv_iload_n X.1 X.2.1 (dk T_X10_isAdmitted 8 rfl) rfl (lv_at hl 1 rfl) ?_
    refine lv_iconst (v := 2) X.1 X.2.1 (dk T_X10_isAdmitted 9 rfl) ic_2 ?_
    refine lv_iload X.1 X.2.1 (dk T_X10_isAdmitted 10 rfl) (lv_at hl 5 rfl) ?_
    obtain ⟨q17, hq17, h⟩ := bs h
    refine gvI (rest := []) X Y (c_X10_refuse x1 2 x5 σ hq17) cb_X10_354 rfl hl.1 rfl rfl (Nat.le_of_ble_eq_true rfl) ⟨Nat.le_of_ble_eq_true rfl, Nat.le_of_ble_eq_true rfl⟩ (dk T_X10_isAdmitted 11 rfl) (fun H locs Y => ?_)
    obtain rfl := Option.some.inj h
    exact KR _ _ _ _ Y (dk T_X10_isAdmitted 12 rfl)
def f_X10_isAdmitted (x1 : Int32) (x2 : Int32) (x3 : Int32) (x4 : Int32) (x5 : Int32) (σ : St) : Option (Int32 × St) := bzW (f_X10_isAdmitted_0 x1 x2 x3 x4 x5 σ)
set_option maxHeartbeats 4000000 in
set_option maxRecDepth 100000 in
theorem c_X10_isAdmitted {l : Launch} {g : Geo} (x1 : Int32) (x2 : Int32) (x3 : Int32) (x4 : Int32) (x5 : Int32) (σ : St) {w : Int32 × St} (h : f_X10_isAdmitted x1 x2 x3 x4 x5 σ = some w) : CtI l yX10_isAdmitted cX10_isAdmitted 6 (some .boolean) (rmm 4 105) g [.ref (g.2.2 (0)), .int (x1), .int (x2), .int (x3), .int (x4), .int (x5)] σ w.1 w.2 := by
  obtain ⟨h, hz⟩ := bzW_s h
  exact enI .boolean (by decide) rfl (bz_n hz) (Nat.le_of_ble_eq_true rfl) (fun p e s m args below meth c Q X Y ls hl KR => w_X10_isAdmitted_0 X x1 x2 x3 x4 x5 σ KR Y hl h)
def I_X10_cellsOfAllSheets : List (Nat × Instr × Nat) := [(0, .iconst 0, 1), (1, .istore_n 1, 1), (2, .iconst 0, 1), (3, .istore_n 2, 1), (4, .iload_n 2, 1), (5, .aload_n 0, 1), (6, .getfield 12, 3), (9, .getfield 93, 3), (12, .invokevirtual 209, 3), (15, .if_icmp .ge 20, 3), (18, .iload_n 1, 1), (19, .aload_n 0, 1), (20, .getfield 12, 3), (23, .iload_n 2, 1), (24, .invokevirtual 277, 3), (27, .iadd, 1), (28, .istore_n 1, 1), (29, .iinc 2 1, 3), (32, .goto (-28), 3), (35, .iload_n 1, 1), (36, .ireturn, 1)]
set_option maxRecDepth 100000 in
theorem T_X10_cellsOfAllSheets : ∀ q ∈ I_X10_cellsOfAllSheets, decode cX10_cellsOfAllSheets q.1 = .ok (q.2.1, q.2.2) := by decide +kernel
def f_X10_cellsOfAllSheets_l4 (σ : St) (z : Int32 × Int32) : Option ((Int32 × Int32) ⊕ (Int32)) :=
  (f_X9_size 2 σ).bind fun q1 => if q1 ≤ z.2 then some (.inr z.1) else (f_X8_cellsOf 1 z.2 σ).bind fun q3 => some (.inl (z.1 + q3, z.2 + 1))
set_option maxHeartbeats 4000000 in
set_option maxRecDepth 100000 in
theorem w_X10_cellsOfAllSheets_l4 (X : Cx g RX10 cX10_cellsOfAllSheets 3 (some .int) p s m args meth c) (σ : St) {r : Int32} (KX0 : ∀ (v : Int32), r = v → ∀ (H : Heap) (locs : List Loc) (ls : Array Slot), Wd g s σ H locs → lv_has ls 3 [(1, .int (v))] → W p l e (rmm 3 65) s m args below meth c H locs 0 0 Q (F0 m 35 ls [])) : ∀ (n : Nat) (z : Int32 × Int32) {H : Heap} {locs : List Loc} {ls : Array Slot}, Wd g s σ H locs → lv_has ls 3 [(0, .ref (g.2.2 (0))), (1, .int (z.1)), (2, .int (z.2))] → lp (f_X10_cellsOfAllSheets_l4 σ) n z = some r → W p l e (rmm 3 65) s m args below meth c H locs 0 0 Q (F0 m 4 ls []) := by
  intro n
  induction n with
  | zero => intro z H locs ls Y hl h; cases h
  | succ n ih =>
    intro z H locs ls Y hl h
    obtain ⟨w, h, hw⟩ := lps h
    have KB : ∀ (v0_ : Int32) (v1_ : Int32), w = .inl (v0_, v1_) → ∀ (H : Heap) (locs : List Loc) (ls : Array Slot), Wd g s σ H locs → lv_has ls 3 [(0, .ref (g.2.2 (0))), (1, .int (v0_)), (2, .int (v1_))] → W p l e (rmm 3 65) s m args below meth c H locs 0 0 Q (F0 m 4 ls []) := fun v0_ v1_ e H locs ls Y hl => ih (v0_, v1_) Y hl (lpl hw e)
    have KX0 := fun (v : Int32) (e : w = .inr v) => KX0 v (lpr hw e)
    unfold f_X10_cellsOfAllSheets_l4 at h
    refine lv_iload_n X.1 X.2.1 (dk T_X10_cellsOfAllSheets 4 rfl) rfl (lv_at hl 2 rfl) ?_
    refine lv_aload_n X.1 X.2.1 (dk T_X10_cellsOfAllSheets 5 rfl) rfl (lv_at hl 0 rfl) ?_
    refine gg X Y fl_X10_12 rfl rfl (dk T_X10_cellsOfAllSheets 6 rfl) ?_
    refine ggN X Y fl_X10_93 rfl rfl (dk T_X10_cellsOfAllSheets 7 rfl) ?_
    obtain ⟨q1, hq1, h⟩ := bs h
    refine gvI (rest := [.int (z.2)]) X Y (c_X9_size 2 rfl σ hq1) cb_X10_209 rfl hl.1 rfl rfl (Nat.le_of_ble_eq_true rfl) ⟨Nat.le_of_ble_eq_true rfl, Nat.le_of_ble_eq_true rfl⟩ (dk T_X10_cellsOfAllSheets 8 rfl) (fun H locs Y => ?_)
    refine lv_icmp_ge (tgt := 35) X.1 X.2.1 (dk T_X10_cellsOfAllSheets 9 rfl) rfl (fun c2 => ?_) (fun c2 => ?_)
    · replace h := ipos c2 h
      exact KX0 z.1 (Option.some.inj h).symm _ _ _ Y (lv_sub hl [1] rfl)
    · replace h := ineg c2 h
      refine lv_iload_n X.1 X.2.1 (dk T_X10_cellsOfAllSheets 10 rfl) rfl (lv_at hl 1 rfl) ?_
      refine lv_aload_n X.1 X.2.1 (dk T_X10_cellsOfAllSheets 11 rfl) rfl (lv_at hl 0 rfl) ?_
      refine gg X Y fl_X10_12 rfl rfl (dk T_X10_cellsOfAllSheets 12 rfl) ?_
      refine lv_iload_n X.1 X.2.1 (dk T_X10_cellsOfAllSheets 13 rfl) rfl (lv_at hl 2 rfl) ?_
      obtain ⟨q3, hq3, h⟩ := bs h
      refine gvI (rest := [.int (z.1)]) X Y (c_X8_cellsOf 1 rfl z.2 σ hq3) cb_X10_277 rfl hl.1 rfl rfl (Nat.le_of_ble_eq_true rfl) ⟨Nat.le_of_ble_eq_true rfl, Nat.le_of_ble_eq_true rfl⟩ (dk T_X10_cellsOfAllSheets 14 rfl) (fun H locs Y => ?_)
      refine lv_iadd X.1 X.2.1 (dk T_X10_cellsOfAllSheets 15 rfl) ?_
      refine lv_istore_n (lv' := [(1, .int (z.1 + q3)), (0, .ref (g.2.2 (0))), (2, .int (z.2))]) X.1 X.2.1 (dk T_X10_cellsOfAllSheets 16 rfl) rfl hl (Nat.le_of_ble_eq_true rfl) rfl (fun ls hl => ?_)
      refine lv_iinc (v := z.2 + 1) (lv' := [(2, .int (z.2 + 1)), (1, .int (z.1 + q3)), (0, .ref (g.2.2 (0)))]) X.1 X.2.1 (dk T_X10_cellsOfAllSheets 17 rfl) hl (k := 2) rfl (icx ic_1) (Nat.le_of_ble_eq_true rfl) rfl (fun ls hl => ?_)
      refine lv_goto (tgt := 4) X.1 X.2.1 (dk T_X10_cellsOfAllSheets 18 rfl) rfl ?_
      exact KB (z.1 + q3) (z.2 + 1) (Option.some.inj h).symm _ _ _ Y (lv_sub hl [2, 1, 0] rfl)
def f_X10_cellsOfAllSheets_0 (σ : St) : Option (Int32) :=
  (lp (f_X10_cellsOfAllSheets_l4 σ) FU (0, 0)).bind fun q4 => some q4
set_option maxHeartbeats 4000000 in
set_option maxRecDepth 100000 in
theorem w_X10_cellsOfAllSheets_0 (X : Cx g RX10 cX10_cellsOfAllSheets 3 (some .int) p s m args meth c) (σ : St) {w : Int32} (KR : ∀ (H : Heap) (locs : List Loc) (ls : Array Slot) (pc : Nat), Wd g s σ H locs → decode cX10_cellsOfAllSheets pc = .ok (.ireturn, 1) → W p l e (rmm 3 65) s m args below meth c H locs 0 0 Q (F0 m pc ls [.int (w)])) {H : Heap} {locs : List Loc} {ls : Array Slot} (Y : Wd g s σ H locs) (hl : lv_has ls 3 [(0, .ref (g.2.2 (0)))]) (h : f_X10_cellsOfAllSheets_0 σ = some w) : W p l e (rmm 3 65) s m args below meth c H locs 0 0 Q (F0 m 0 ls []) := by
  unfold f_X10_cellsOfAllSheets_0 at h
  refine lv_iconst (v := 0) X.1 X.2.1 (dk T_X10_cellsOfAllSheets 0 rfl) ic_0 ?_
  refine lv_istore_n (lv' := [(1, .int (0)), (0, .ref (g.2.2 (0)))]) X.1 X.2.1 (dk T_X10_cellsOfAllSheets 1 rfl) rfl hl (Nat.le_of_ble_eq_true rfl) rfl (fun ls hl => ?_)
  refine lv_iconst (v := 0) X.1 X.2.1 (dk T_X10_cellsOfAllSheets 2 rfl) ic_0 ?_
  refine lv_istore_n (lv' := [(2, .int (0)), (1, .int (0)), (0, .ref (g.2.2 (0)))]) X.1 X.2.1 (dk T_X10_cellsOfAllSheets 3 rfl) rfl hl (Nat.le_of_ble_eq_true rfl) rfl (fun ls hl => ?_)
  obtain ⟨q4, hq4, h⟩ := bs h
  refine w_X10_cellsOfAllSheets_l4 X σ (fun v e H locs ls Y hl => ?_) FU (0, 0) Y (lv_sub hl [2, 1, 0] rfl) hq4
  · obtain rfl := e
    refine lv_iload_n X.1 X.2.1 (dk T_X10_cellsOfAllSheets 19 rfl) rfl (lv_at hl 0 rfl) ?_
    obtain rfl := Option.some.inj h
    exact KR _ _ _ _ Y (dk T_X10_cellsOfAllSheets 20 rfl)
def f_X10_cellsOfAllSheets (σ : St) : Option (Int32) := f_X10_cellsOfAllSheets_0 σ
set_option maxHeartbeats 4000000 in
set_option maxRecDepth 100000 in
theorem c_X10_cellsOfAllSheets {l : Launch} {g : Geo} (σ : St) {w : Int32} (h : f_X10_cellsOfAllSheets σ = some w) : CtI l yX10_cellsOfAllSheets cX10_cellsOfAllSheets 3 (some .int) (rmm 3 65) g [.ref (g.2.2 (0))] σ w σ := enI .int (by decide) rfl rfl (Nat.le_of_ble_eq_true rfl) (fun p e s m args below meth c Q X Y ls hl KR => w_X10_cellsOfAllSheets_0 X σ KR Y hl h)
def I_X10_cutsOfAllSheets : List (Nat × Instr × Nat) := [(0, .iconst 0, 1), (1, .istore_n 1, 1), (2, .iconst 0, 1), (3, .istore_n 2, 1), (4, .iload_n 2, 1), (5, .aload_n 0, 1), (6, .getfield 12, 3), (9, .getfield 93, 3), (12, .invokevirtual 209, 3), (15, .if_icmp .ge 21, 3), (18, .iload_n 1, 1), (19, .aload_n 0, 1), (20, .getfield 12, 3), (23, .iload_n 2, 1), (24, .iconst 0, 1), (25, .invokevirtual 169, 3), (28, .iadd, 1), (29, .istore_n 1, 1), (30, .iinc 2 1, 3), (33, .goto (-29), 3), (36, .iload_n 1, 1), (37, .ireturn, 1)]
set_option maxRecDepth 100000 in
theorem T_X10_cutsOfAllSheets : ∀ q ∈ I_X10_cutsOfAllSheets, decode cX10_cutsOfAllSheets q.1 = .ok (q.2.1, q.2.2) := by decide +kernel
def f_X10_cutsOfAllSheets_l4 (σ : St) (z : Int32 × Int32) : Option ((Int32 × Int32) ⊕ (Int32)) :=
  (f_X9_size 2 σ).bind fun q1 => if q1 ≤ z.2 then some (.inr z.1) else (f_X8_cutsOn 1 z.2 0 σ).bind fun q3 => some (.inl (z.1 + q3, z.2 + 1))
set_option maxHeartbeats 4000000 in
set_option maxRecDepth 100000 in
theorem w_X10_cutsOfAllSheets_l4 (X : Cx g RX10 cX10_cutsOfAllSheets 3 (some .int) p s m args meth c) (σ : St) {r : Int32} (KX0 : ∀ (v : Int32), r = v → ∀ (H : Heap) (locs : List Loc) (ls : Array Slot), Wd g s σ H locs → lv_has ls 3 [(1, .int (v))] → W p l e (rmm 3 74) s m args below meth c H locs 0 0 Q (F0 m 36 ls [])) : ∀ (n : Nat) (z : Int32 × Int32) {H : Heap} {locs : List Loc} {ls : Array Slot}, Wd g s σ H locs → lv_has ls 3 [(0, .ref (g.2.2 (0))), (1, .int (z.1)), (2, .int (z.2))] → lp (f_X10_cutsOfAllSheets_l4 σ) n z = some r → W p l e (rmm 3 74) s m args below meth c H locs 0 0 Q (F0 m 4 ls []) := by
  intro n
  induction n with
  | zero => intro z H locs ls Y hl h; cases h
  | succ n ih =>
    intro z H locs ls Y hl h
    obtain ⟨w, h, hw⟩ := lps h
    have KB : ∀ (v0_ : Int32) (v1_ : Int32), w = .inl (v0_, v1_) → ∀ (H : Heap) (locs : List Loc) (ls : Array Slot), Wd g s σ H locs → lv_has ls 3 [(0, .ref (g.2.2 (0))), (1, .int (v0_)), (2, .int (v1_))] → W p l e (rmm 3 74) s m args below meth c H locs 0 0 Q (F0 m 4 ls []) := fun v0_ v1_ e H locs ls Y hl => ih (v0_, v1_) Y hl (lpl hw e)
    have KX0 := fun (v : Int32) (e : w = .inr v) => KX0 v (lpr hw e)
    unfold f_X10_cutsOfAllSheets_l4 at h
    refine lv_iload_n X.1 X.2.1 (dk T_X10_cutsOfAllSheets 4 rfl) rfl (lv_at hl 2 rfl) ?_
    refine lv_aload_n X.1 X.2.1 (dk T_X10_cutsOfAllSheets 5 rfl) rfl (lv_at hl 0 rfl) ?_
    refine gg X Y fl_X10_12 rfl rfl (dk T_X10_cutsOfAllSheets 6 rfl) ?_
    refine ggN X Y fl_X10_93 rfl rfl (dk T_X10_cutsOfAllSheets 7 rfl) ?_
    obtain ⟨q1, hq1, h⟩ := bs h
    refine gvI (rest := [.int (z.2)]) X Y (c_X9_size 2 rfl σ hq1) cb_X10_209 rfl hl.1 rfl rfl (Nat.le_of_ble_eq_true rfl) ⟨Nat.le_of_ble_eq_true rfl, Nat.le_of_ble_eq_true rfl⟩ (dk T_X10_cutsOfAllSheets 8 rfl) (fun H locs Y => ?_)
    refine lv_icmp_ge (tgt := 36) X.1 X.2.1 (dk T_X10_cutsOfAllSheets 9 rfl) rfl (fun c2 => ?_) (fun c2 => ?_)
    · replace h := ipos c2 h
      exact KX0 z.1 (Option.some.inj h).symm _ _ _ Y (lv_sub hl [1] rfl)
    · replace h := ineg c2 h
      refine lv_iload_n X.1 X.2.1 (dk T_X10_cutsOfAllSheets 10 rfl) rfl (lv_at hl 1 rfl) ?_
      refine lv_aload_n X.1 X.2.1 (dk T_X10_cutsOfAllSheets 11 rfl) rfl (lv_at hl 0 rfl) ?_
      refine gg X Y fl_X10_12 rfl rfl (dk T_X10_cutsOfAllSheets 12 rfl) ?_
      refine lv_iload_n X.1 X.2.1 (dk T_X10_cutsOfAllSheets 13 rfl) rfl (lv_at hl 2 rfl) ?_
      refine lv_iconst (v := 0) X.1 X.2.1 (dk T_X10_cutsOfAllSheets 14 rfl) ic_0 ?_
      obtain ⟨q3, hq3, h⟩ := bs h
      refine gvI (rest := [.int (z.1)]) X Y (c_X8_cutsOn 1 rfl z.2 0 σ hq3) cb_X10_169 rfl hl.1 rfl rfl (Nat.le_of_ble_eq_true rfl) ⟨Nat.le_of_ble_eq_true rfl, Nat.le_of_ble_eq_true rfl⟩ (dk T_X10_cutsOfAllSheets 15 rfl) (fun H locs Y => ?_)
      refine lv_iadd X.1 X.2.1 (dk T_X10_cutsOfAllSheets 16 rfl) ?_
      refine lv_istore_n (lv' := [(1, .int (z.1 + q3)), (0, .ref (g.2.2 (0))), (2, .int (z.2))]) X.1 X.2.1 (dk T_X10_cutsOfAllSheets 17 rfl) rfl hl (Nat.le_of_ble_eq_true rfl) rfl (fun ls hl => ?_)
      refine lv_iinc (v := z.2 + 1) (lv' := [(2, .int (z.2 + 1)), (1, .int (z.1 + q3)), (0, .ref (g.2.2 (0)))]) X.1 X.2.1 (dk T_X10_cutsOfAllSheets 18 rfl) hl (k := 2) rfl (icx ic_1) (Nat.le_of_ble_eq_true rfl) rfl (fun ls hl => ?_)
      refine lv_goto (tgt := 4) X.1 X.2.1 (dk T_X10_cutsOfAllSheets 19 rfl) rfl ?_
      exact KB (z.1 + q3) (z.2 + 1) (Option.some.inj h).symm _ _ _ Y (lv_sub hl [2, 1, 0] rfl)
def f_X10_cutsOfAllSheets_0 (σ : St) : Option (Int32) :=
  (lp (f_X10_cutsOfAllSheets_l4 σ) FU (0, 0)).bind fun q4 => some q4
set_option maxHeartbeats 4000000 in
set_option maxRecDepth 100000 in
theorem w_X10_cutsOfAllSheets_0 (X : Cx g RX10 cX10_cutsOfAllSheets 3 (some .int) p s m args meth c) (σ : St) {w : Int32} (KR : ∀ (H : Heap) (locs : List Loc) (ls : Array Slot) (pc : Nat), Wd g s σ H locs → decode cX10_cutsOfAllSheets pc = .ok (.ireturn, 1) → W p l e (rmm 3 74) s m args below meth c H locs 0 0 Q (F0 m pc ls [.int (w)])) {H : Heap} {locs : List Loc} {ls : Array Slot} (Y : Wd g s σ H locs) (hl : lv_has ls 3 [(0, .ref (g.2.2 (0)))]) (h : f_X10_cutsOfAllSheets_0 σ = some w) : W p l e (rmm 3 74) s m args below meth c H locs 0 0 Q (F0 m 0 ls []) := by
  unfold f_X10_cutsOfAllSheets_0 at h
  refine lv_iconst (v := 0) X.1 X.2.1 (dk T_X10_cutsOfAllSheets 0 rfl) ic_0 ?_
  refine lv_istore_n (lv' := [(1, .int (0)), (0, .ref (g.2.2 (0)))]) X.1 X.2.1 (dk T_X10_cutsOfAllSheets 1 rfl) rfl hl (Nat.le_of_ble_eq_true rfl) rfl (fun ls hl => ?_)
  refine lv_iconst (v := 0) X.1 X.2.1 (dk T_X10_cutsOfAllSheets 2 rfl) ic_0 ?_
  refine lv_istore_n (lv' := [(2, .int (0)), (1, .int (0)), (0, .ref (g.2.2 (0)))]) X.1 X.2.1 (dk T_X10_cutsOfAllSheets 3 rfl) rfl hl (Nat.le_of_ble_eq_true rfl) rfl (fun ls hl => ?_)
  obtain ⟨q4, hq4, h⟩ := bs h
  refine w_X10_cutsOfAllSheets_l4 X σ (fun v e H locs ls Y hl => ?_) FU (0, 0) Y (lv_sub hl [2, 1, 0] rfl) hq4
  · obtain rfl := e
    refine lv_iload_n X.1 X.2.1 (dk T_X10_cutsOfAllSheets 20 rfl) rfl (lv_at hl 0 rfl) ?_
    obtain rfl := Option.some.inj h
    exact KR _ _ _ _ Y (dk T_X10_cutsOfAllSheets 21 rfl)
def f_X10_cutsOfAllSheets (σ : St) : Option (Int32) := f_X10_cutsOfAllSheets_0 σ
set_option maxHeartbeats 4000000 in
set_option maxRecDepth 100000 in
theorem c_X10_cutsOfAllSheets {l : Launch} {g : Geo} (σ : St) {w : Int32} (h : f_X10_cutsOfAllSheets σ = some w) : CtI l yX10_cutsOfAllSheets cX10_cutsOfAllSheets 3 (some .int) (rmm 3 74) g [.ref (g.2.2 (0))] σ w σ := enI .int (by decide) rfl rfl (Nat.le_of_ble_eq_true rfl) (fun p e s m args below meth c Q X Y ls hl KR => w_X10_cutsOfAllSheets_0 X σ KR Y hl h)
def I_X2_size : List (Nat × Instr × Nat) := [(0, .aload_n 0, 1), (1, .getfield 22, 3), (4, .ireturn, 1)]
set_option maxRecDepth 100000 in
theorem T_X2_size : ∀ q ∈ I_X2_size, decode cX2_size q.1 = .ok (q.2.1, q.2.2) := by decide +kernel
def f_X2_size_0 (σ : St) : Option (Int32) :=
  some (σ 78 2)
set_option maxHeartbeats 4000000 in
set_option maxRecDepth 100000 in
theorem w_X2_size_0 (X : Cx g RX2 cX2_size 1 (some .int) p s m args meth c) (σ : St) {w : Int32} (KR : ∀ (H : Heap) (locs : List Loc) (ls : Array Slot) (pc : Nat), Wd g s σ H locs → decode cX2_size pc = .ok (.ireturn, 1) → W p l e (rmm 0 0) s m args below meth c H locs 0 0 Q (F0 m pc ls [.int (w)])) {H : Heap} {locs : List Loc} {ls : Array Slot} (Y : Wd g s σ H locs) (hl : lv_has ls 1 [(0, .ref (g.2.2 (78)))]) (h : f_X2_size_0 σ = some w) : W p l e (rmm 0 0) s m args below meth c H locs 0 0 Q (F0 m 0 ls []) := by
  unfold f_X2_size_0 at h
  refine lv_aload_n X.1 X.2.1 (dk T_X2_size 0 rfl) rfl (lv_at hl 0 rfl) ?_
  refine gg X Y fl_X2_22 rfl rfl (dk T_X2_size 1 rfl) ?_
  obtain rfl := Option.some.inj h
  exact KR _ _ _ _ Y (dk T_X2_size 2 rfl)
def f_X2_size (σ : St) : Option (Int32) := f_X2_size_0 σ
set_option maxHeartbeats 4000000 in
set_option maxRecDepth 100000 in
theorem c_X2_size {l : Launch} {g : Geo} (σ : St) {w : Int32} (h : f_X2_size σ = some w) : CtI l yX2_size cX2_size 1 (some .int) (rmm 0 0) g [.ref (g.2.2 (78))] σ w σ := enI .int (by decide) rfl rfl (Nat.le_of_ble_eq_true rfl) (fun p e s m args below meth c Q X Y ls hl KR => w_X2_size_0 X σ KR Y hl h)
def I_X10_refuseText : List (Nat × Instr × Nat) := [(0, .aload_n 0, 1), (1, .getfield 36, 3), (4, .iconst 1, 1), (5, .aload_n 0, 1), (6, .getfield 70, 3), (9, .invokevirtual 373, 3), (12, .invokevirtual 370, 3), (15, .aload_n 0, 1), (16, .getfield 36, 3), (19, .iconst 2, 1), (20, .aload_n 0, 1), (21, .getfield 70, 3), (24, .invokevirtual 376, 3), (27, .invokevirtual 370, 3), (30, .iconst 0, 1), (31, .ireturn, 1)]
set_option maxRecDepth 100000 in
theorem T_X10_refuseText : ∀ q ∈ I_X10_refuseText, decode cX10_refuseText q.1 = .ok (q.2.1, q.2.2) := by decide +kernel
def f_X10_refuseText_0 (σ : St) : Option (Int32 × St) :=
  (f_X6_itemsBefore σ).bind fun q1 => (f_X0_add 83 1 q1 σ).bind fun q2 => (f_X6_position q2).bind fun q3 => (f_X0_add 83 2 q3 q2).bind fun q4 => some (0, q4)
set_option maxHeartbeats 4000000 in
set_option maxRecDepth 100000 in
theorem w_X10_refuseText_0 (X : Cx g RX10 cX10_refuseText 1 (some .boolean) p s m args meth c) (σ : St) {w : Int32 × St} (KR : ∀ (H : Heap) (locs : List Loc) (ls : Array Slot) (pc : Nat), Wd g s w.2 H locs → decode cX10_refuseText pc = .ok (.ireturn, 1) → W p l e (rmm 2 44) s m args below meth c H locs 0 0 Q (F0 m pc ls [.int (w.1)])) {H : Heap} {locs : List Loc} {ls : Array Slot} (Y : Wd g s σ H locs) (hl : lv_has ls 1 [(0, .ref (g.2.2 (0)))]) (h : f_X10_refuseText_0 σ = some w) : W p l e (rmm 2 44) s m args below meth c H locs 0 0 Q (F0 m 0 ls []) := by
  unfold f_X10_refuseText_0 at h
  refine lv_aload_n X.1 X.2.1 (dk T_X10_refuseText 0 rfl) rfl (lv_at hl 0 rfl) ?_
  refine gg X Y fl_X10_36 rfl rfl (dk T_X10_refuseText 1 rfl) ?_
  refine lv_iconst (v := 1) X.1 X.2.1 (dk T_X10_refuseText 2 rfl) ic_1 ?_
  refine lv_aload_n X.1 X.2.1 (dk T_X10_refuseText 3 rfl) rfl (lv_at hl 0 rfl) ?_
  refine gg X Y fl_X10_70 rfl rfl (dk T_X10_refuseText 4 rfl) ?_
  obtain ⟨q1, hq1, h⟩ := bs h
  refine gvI (rest := [.int (1), .ref (g.2.2 (83))]) X Y (c_X6_itemsBefore σ hq1) cb_X10_373 rfl hl.1 rfl rfl (Nat.le_of_ble_eq_true rfl) ⟨Nat.le_of_ble_eq_true rfl, Nat.le_of_ble_eq_true rfl⟩ (dk T_X10_refuseText 5 rfl) (fun H locs Y => ?_)
  obtain ⟨q2, hq2, h⟩ := bs h
  refine gvV (rest := []) X Y (c_X0_add 83 rfl 1 q1 σ hq2) cb_X10_370 rfl hl.1 rfl rfl (Nat.le_of_ble_eq_true rfl) ⟨Nat.le_of_ble_eq_true rfl, Nat.le_of_ble_eq_true rfl⟩ (dk T_X10_refuseText 6 rfl) (fun H locs Y => ?_)
  refine lv_aload_n X.1 X.2.1 (dk T_X10_refuseText 7 rfl) rfl (lv_at hl 0 rfl) ?_
  refine gg X Y fl_X10_36 rfl rfl (dk T_X10_refuseText 8 rfl) ?_
  refine lv_iconst (v := 2) X.1 X.2.1 (dk T_X10_refuseText 9 rfl) ic_2 ?_
  refine lv_aload_n X.1 X.2.1 (dk T_X10_refuseText 10 rfl) rfl (lv_at hl 0 rfl) ?_
  refine gg X Y fl_X10_70 rfl rfl (dk T_X10_refuseText 11 rfl) ?_
  obtain ⟨q3, hq3, h⟩ := bs h
  refine gvI (rest := [.int (2), .ref (g.2.2 (83))]) X Y (c_X6_position q2 hq3) cb_X10_376 rfl hl.1 rfl rfl (Nat.le_of_ble_eq_true rfl) ⟨Nat.le_of_ble_eq_true rfl, Nat.le_of_ble_eq_true rfl⟩ (dk T_X10_refuseText 12 rfl) (fun H locs Y => ?_)
  obtain ⟨q4, hq4, h⟩ := bs h
  refine gvV (rest := []) X Y (c_X0_add 83 rfl 2 q3 q2 hq4) cb_X10_370 rfl hl.1 rfl rfl (Nat.le_of_ble_eq_true rfl) ⟨Nat.le_of_ble_eq_true rfl, Nat.le_of_ble_eq_true rfl⟩ (dk T_X10_refuseText 13 rfl) (fun H locs Y => ?_)
  refine lv_iconst (v := 0) X.1 X.2.1 (dk T_X10_refuseText 14 rfl) ic_0 ?_
  obtain rfl := Option.some.inj h
  exact KR _ _ _ _ Y (dk T_X10_refuseText 15 rfl)
def f_X10_refuseText (σ : St) : Option (Int32 × St) := bzW (f_X10_refuseText_0 σ)
set_option maxHeartbeats 4000000 in
set_option maxRecDepth 100000 in
theorem c_X10_refuseText {l : Launch} {g : Geo} (σ : St) {w : Int32 × St} (h : f_X10_refuseText σ = some w) : CtI l yX10_refuseText cX10_refuseText 1 (some .boolean) (rmm 2 44) g [.ref (g.2.2 (0))] σ w.1 w.2 := by
  obtain ⟨h, hz⟩ := bzW_s h
  exact enI .boolean (by decide) rfl (bz_n hz) (Nat.le_of_ble_eq_true rfl) (fun p e s m args below meth c Q X Y ls hl KR => w_X10_refuseText_0 X σ KR Y hl h)
def I_X10_saveSnapshot : List (Nat × Instr × Nat) := [(0, .aload_n 0, 1), (1, .getfield 19, 3), (4, .aload_n 0, 1), (5, .getfield 12, 3), (8, .invokevirtual 318, 3), (11, .aload_n 0, 1), (12, .iconst 1, 1), (13, .putfield 74, 3), (16, .aload_n 0, 1), (17, .getfield 12, 3), (20, .getfield 163, 3), (23, .invokevirtual 209, 3), (26, .ireturn, 1)]
set_option maxRecDepth 100000 in
theorem T_X10_saveSnapshot : ∀ q ∈ I_X10_saveSnapshot, decode cX10_saveSnapshot q.1 = .ok (q.2.1, q.2.2) := by decide +kernel
def f_X10_saveSnapshot_0 (σ : St) : Option (Int32 × St) :=
  (f_X8_copyFrom 15 1 σ).bind fun q1 => (f_X9_size 6 (up q1 0 11 1)).bind fun q2 => some (q2, up q1 0 11 1)
set_option maxHeartbeats 4000000 in
set_option maxRecDepth 100000 in
theorem w_X10_saveSnapshot_0 (X : Cx g RX10 cX10_saveSnapshot 1 (some .int) p s m args meth c) (σ : St) {w : Int32 × St} (KR : ∀ (H : Heap) (locs : List Loc) (ls : Array Slot) (pc : Nat), Wd g s w.2 H locs → decode cX10_saveSnapshot pc = .ok (.ireturn, 1) → W p l e (rmm 3 82) s m args below meth c H locs 0 0 Q (F0 m pc ls [.int (w.1)])) {H : Heap} {locs : List Loc} {ls : Array Slot} (Y : Wd g s σ H locs) (hl : lv_has ls 1 [(0, .ref (g.2.2 (0)))]) (h : f_X10_saveSnapshot_0 σ = some w) : W p l e (rmm 3 82) s m args below meth c H locs 0 0 Q (F0 m 0 ls []) := by
  unfold f_X10_saveSnapshot_0 at h
  refine lv_aload_n X.1 X.2.1 (dk T_X10_saveSnapshot 0 rfl) rfl (lv_at hl 0 rfl) ?_
  refine gg X Y fl_X10_19 rfl rfl (dk T_X10_saveSnapshot 1 rfl) ?_
  refine lv_aload_n X.1 X.2.1 (dk T_X10_saveSnapshot 2 rfl) rfl (lv_at hl 0 rfl) ?_
  refine gg X Y fl_X10_12 rfl rfl (dk T_X10_saveSnapshot 3 rfl) ?_
  obtain ⟨q1, hq1, h⟩ := bs h
  refine gvV (rest := []) X Y (c_X8_copyFrom 15 1 rfl rfl σ hq1) cb_X10_318 rfl hl.1 rfl rfl (Nat.le_of_ble_eq_true rfl) ⟨Nat.le_of_ble_eq_true rfl, Nat.le_of_ble_eq_true rfl⟩ (dk T_X10_saveSnapshot 4 rfl) (fun H locs Y => ?_)
  refine lv_aload_n X.1 X.2.1 (dk T_X10_saveSnapshot 5 rfl) rfl (lv_at hl 0 rfl) ?_
  refine lv_iconst (v := 1) X.1 X.2.1 (dk T_X10_saveSnapshot 6 rfl) ic_1 ?_
  refine gp X Y fp_X10_74 rfl nar_b1 (dk T_X10_saveSnapshot 7 rfl) (fun H locs Y => ?_)
  refine lv_aload_n X.1 X.2.1 (dk T_X10_saveSnapshot 8 rfl) rfl (lv_at hl 0 rfl) ?_
  refine gg X Y fl_X10_12 rfl rfl (dk T_X10_saveSnapshot 9 rfl) ?_
  refine ggN X Y fl_X10_163 rfl rfl (dk T_X10_saveSnapshot 10 rfl) ?_
  obtain ⟨q2, hq2, h⟩ := bs h
  refine gvI (rest := []) X Y (c_X9_size 6 rfl (up q1 0 11 1) hq2) cb_X10_209 rfl hl.1 rfl rfl (Nat.le_of_ble_eq_true rfl) ⟨Nat.le_of_ble_eq_true rfl, Nat.le_of_ble_eq_true rfl⟩ (dk T_X10_saveSnapshot 11 rfl) (fun H locs Y => ?_)
  obtain rfl := Option.some.inj h
  exact KR _ _ _ _ Y (dk T_X10_saveSnapshot 12 rfl)
def f_X10_saveSnapshot (σ : St) : Option (Int32 × St) := f_X10_saveSnapshot_0 σ
set_option maxHeartbeats 4000000 in
set_option maxRecDepth 100000 in
theorem c_X10_saveSnapshot {l : Launch} {g : Geo} (σ : St) {w : Int32 × St} (h : f_X10_saveSnapshot σ = some w) : CtI l yX10_saveSnapshot cX10_saveSnapshot 1 (some .int) (rmm 3 82) g [.ref (g.2.2 (0))] σ w.1 w.2 := enI .int (by decide) rfl rfl (Nat.le_of_ble_eq_true rfl) (fun p e s m args below meth c Q X Y ls hl KR => w_X10_saveSnapshot_0 X σ KR Y hl h)
def I_X2_clear : List (Nat × Instr × Nat) := [(0, .aload_n 0, 1), (1, .iconst 0, 1), (2, .putfield 22, 3), (5, .return_, 1)]
set_option maxRecDepth 100000 in
theorem T_X2_clear : ∀ q ∈ I_X2_clear, decode cX2_clear q.1 = .ok (q.2.1, q.2.2) := by decide +kernel
def f_X2_clear_0 (σ : St) : Option (St) :=
  some (up σ 78 2 0)
set_option maxHeartbeats 4000000 in
set_option maxRecDepth 100000 in
theorem w_X2_clear_0 (X : Cx g RX2 cX2_clear 1 none p s m args meth c) (σ : St) {w : St} (KR : ∀ (H : Heap) (locs : List Loc) (ls : Array Slot) (pc : Nat), Wd g s w H locs → decode cX2_clear pc = .ok (.return_, 1) → W p l e (rmm 0 0) s m args below meth c H locs 0 0 Q (F0 m pc ls [])) {H : Heap} {locs : List Loc} {ls : Array Slot} (Y : Wd g s σ H locs) (hl : lv_has ls 1 [(0, .ref (g.2.2 (78)))]) (h : f_X2_clear_0 σ = some w) : W p l e (rmm 0 0) s m args below meth c H locs 0 0 Q (F0 m 0 ls []) := by
  unfold f_X2_clear_0 at h
  refine lv_aload_n X.1 X.2.1 (dk T_X2_clear 0 rfl) rfl (lv_at hl 0 rfl) ?_
  refine lv_iconst (v := 0) X.1 X.2.1 (dk T_X2_clear 1 rfl) ic_0 ?_
  refine gp X Y fp_X2_22 rfl (nar_int _) (dk T_X2_clear 2 rfl) (fun H locs Y => ?_)
  obtain rfl := Option.some.inj h
  exact KR _ _ _ _ Y (dk T_X2_clear 3 rfl)
def f_X2_clear (σ : St) : Option (St) := f_X2_clear_0 σ
set_option maxHeartbeats 4000000 in
set_option maxRecDepth 100000 in
theorem c_X2_clear {l : Launch} {g : Geo} (σ : St) {w : St} (h : f_X2_clear σ = some w) : CtV l yX2_clear cX2_clear 1 none (rmm 0 0) g [.ref (g.2.2 (78))] σ w := enV (by decide) rfl (Nat.le_of_ble_eq_true rfl) (fun p e s m args below meth c Q X Y ls hl KR => w_X2_clear_0 X σ KR Y hl h)
end
