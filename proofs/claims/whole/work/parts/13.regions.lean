theorem bp_100 : (Int8.ofInt 100).toInt32 = 100 := by decide
theorem cb_X4_31 : CBV RX4 31 yX4_begin cX4_begin 3 none 2 5 := ⟨⟨mw 14 5 rfl rfl, mw 1 7 rfl rfl, mw 14 8 rfl rfl, by decide, by decide, by decide +kernel⟩, mw 14 6 rfl rfl, mw 14 7 rfl rfl, TX4, 11, tyX4, cl_X4⟩
theorem cb_X4_35 : CBV RX4 35 yX8_onCell cX8_onCell 3 (some .int) 2 9 := ⟨⟨mw 14 11 rfl rfl, mw 0 16 rfl rfl, mw 11 13 rfl rfl, by decide, by decide, by decide +kernel⟩, mw 11 11 rfl rfl, mw 11 12 rfl rfl, TX8, 3, tyX8, cl_X8⟩
theorem cb_X4_41 : CBN RX4 41 yX10_put cX10_put 3 none 3 := ⟨by decide, mw 0 2 rfl rfl, mw 14 13 rfl rfl, by decide, by decide, by decide +kernel, mw 14 12 rfl rfl⟩
theorem cb_X4_45 : CBV RX4 45 yX4_labelAt cX4_labelAt 2 (some .int) 1 5 := ⟨⟨mw 14 14 rfl rfl, mw 1 7 rfl rfl, mw 14 17 rfl rfl, by decide, by decide, by decide +kernel⟩, mw 14 15 rfl rfl, mw 14 16 rfl rfl, TX4, 11, tyX4, cl_X4⟩
theorem cb_X4_49 : CBV RX4 49 yX4_spread cX4_spread 6 none 2 5 := ⟨⟨mw 14 18 rfl rfl, mw 1 7 rfl rfl, mw 14 21 rfl rfl, by decide, by decide, by decide +kernel⟩, mw 14 19 rfl rfl, mw 14 20 rfl rfl, TX4, 11, tyX4, cl_X4⟩
theorem cb_X4_57 : CBV RX4 57 yX9_get cX9_get 4 (some .int) 2 10 := ⟨⟨mw 23 0 rfl rfl, mw 1 24 rfl rfl, mw 11 5 rfl rfl, by decide, by decide, by decide +kernel⟩, mw 11 3 rfl rfl, mw 11 4 rfl rfl, TX9, 3, tyX9, cl_X9⟩
theorem cb_X4_62 : CBV RX4 62 yX8_lowestCell cX8_lowestCell 4 (some .int) 1 9 := ⟨⟨mw 23 1 rfl rfl, mw 0 16 rfl rfl, mw 22 27 rfl rfl, by decide, by decide, by decide +kernel⟩, mw 22 25 rfl rfl, mw 22 26 rfl rfl, TX8, 3, tyX8, cl_X8⟩
theorem cb_X4_65 : CBV RX4 65 yX9_size cX9_size 1 (some .int) 0 10 := ⟨⟨mw 23 2 rfl rfl, mw 1 24 rfl rfl, mw 22 7 rfl rfl, by decide, by decide, by decide +kernel⟩, mw 22 5 rfl rfl, mw 22 6 rfl rfl, TX9, 3, tyX9, cl_X9⟩
theorem cb_X4_69 : CBV RX4 69 yX4_findHoles cX4_findHoles 5 none 3 5 := ⟨⟨mw 23 3 rfl rfl, mw 1 7 rfl rfl, mw 23 6 rfl rfl, by decide, by decide, by decide +kernel⟩, mw 23 4 rfl rfl, mw 23 5 rfl rfl, TX4, 11, tyX4, cl_X4⟩
theorem cb_X4_73 : CBV RX4 73 yX4_isInHole cX4_isInHole 2 (some .boolean) 1 5 := ⟨⟨mw 23 7 rfl rfl, mw 1 7 rfl rfl, mw 23 10 rfl rfl, by decide, by decide, by decide +kernel⟩, mw 23 8 rfl rfl, mw 23 9 rfl rfl, TX4, 11, tyX4, cl_X4⟩
theorem cb_X4_77 : CBV RX4 77 yX8_sizeOfPart cX8_sizeOfPart 2 (some .int) 1 9 := ⟨⟨mw 23 11 rfl rfl, mw 0 16 rfl rfl, mw 23 14 rfl rfl, by decide, by decide, by decide +kernel⟩, mw 23 12 rfl rfl, mw 23 13 rfl rfl, TX8, 3, tyX8, cl_X8⟩
theorem cb_X4_80 : CBV RX4 80 yX8_columnsOf cX8_columnsOf 2 (some .int) 1 9 := ⟨⟨mw 14 9 rfl rfl, mw 0 16 rfl rfl, mw 11 1 rfl rfl, by decide, by decide, by decide +kernel⟩, mw 10 31 rfl rfl, mw 11 0 rfl rfl, TX8, 3, tyX8, cl_X8⟩
theorem cb_X4_83 : CBV RX4 83 yX8_rowsOf cX8_rowsOf 2 (some .int) 1 9 := ⟨⟨mw 14 10 rfl rfl, mw 0 16 rfl rfl, mw 11 9 rfl rfl, by decide, by decide, by decide +kernel⟩, mw 11 7 rfl rfl, mw 11 8 rfl rfl, TX8, 3, tyX8, cl_X8⟩
theorem cb_X4_86 : CBV RX4 86 yX4_enter cX4_enter 3 none 2 5 := ⟨⟨mw 14 22 rfl rfl, mw 1 7 rfl rfl, mw 14 25 rfl rfl, by decide, by decide, by decide +kernel⟩, mw 14 23 rfl rfl, mw 14 24 rfl rfl, TX4, 11, tyX4, cl_X4⟩
theorem cb_X4_89 : CBN RX4 89 yX10_at cX10_at 2 (some .int) 2 := ⟨by decide, mw 0 2 rfl rfl, mw 14 27 rfl rfl, by decide, by decide, by decide +kernel, mw 14 26 rfl rfl⟩
theorem cb_X4_108 : CBV RX4 108 yX4_measureCell cX4_measureCell 3 none 2 5 := ⟨⟨mw 28 3 rfl rfl, mw 1 7 rfl rfl, mw 28 6 rfl rfl, by decide, by decide, by decide +kernel⟩, mw 28 4 rfl rfl, mw 28 5 rfl rfl, TX4, 11, tyX4, cl_X4⟩
theorem mb_X4_111 : MB RX4 111 Lib.Math.min.name Lib.Math.min.code 2 := ⟨mw 28 7 rfl rfl, mw 5 29 rfl rfl, mw 5 30 rfl rfl, mw 5 31 rfl rfl⟩
theorem mb_X4_116 : MB RX4 116 Lib.Math.max.name Lib.Math.max.code 2 := ⟨mw 28 8 rfl rfl, mw 28 9 rfl rfl, mw 5 30 rfl rfl, mw 28 10 rfl rfl⟩
theorem cb_X4_119 : CBV RX4 119 yX4_greatestFrom cX4_greatestFrom 7 (some .int) 3 5 := ⟨⟨mw 28 31 rfl rfl, mw 1 7 rfl rfl, mw 29 2 rfl rfl, by decide, by decide, by decide +kernel⟩, mw 29 0 rfl rfl, mw 29 1 rfl rfl, TX4, 11, tyX4, cl_X4⟩
theorem cb_X4_123 : CBV RX4 123 yX4_cellsToTheRight cX4_cellsToTheRight 5 (some .int) 3 5 := ⟨⟨mw 29 3 rfl rfl, mw 1 7 rfl rfl, mw 29 6 rfl rfl, by decide, by decide, by decide +kernel⟩, mw 29 4 rfl rfl, mw 29 5 rfl rfl, TX4, 11, tyX4, cl_X4⟩
theorem cb_X4_126 : CBV RX4 126 yX4_measure cX4_measure 4 none 1 5 := ⟨⟨mw 30 11 rfl rfl, mw 1 7 rfl rfl, mw 27 29 rfl rfl, by decide, by decide, by decide +kernel⟩, mw 27 27 rfl rfl, mw 27 28 rfl rfl, TX4, 11, tyX4, cl_X4⟩
theorem cb_X4_130 : CBV RX4 130 yX4_columnsMeasured cX4_columnsMeasured 1 (some .int) 0 5 := ⟨⟨mw 30 12 rfl rfl, mw 1 7 rfl rfl, mw 28 22 rfl rfl, by decide, by decide, by decide +kernel⟩, mw 28 20 rfl rfl, mw 28 21 rfl rfl, TX4, 11, tyX4, cl_X4⟩
theorem cb_X4_133 : CBV RX4 133 yX4_rowsMeasured cX4_rowsMeasured 1 (some .int) 0 5 := ⟨⟨mw 30 13 rfl rfl, mw 1 7 rfl rfl, mw 28 26 rfl rfl, by decide, by decide, by decide +kernel⟩, mw 28 24 rfl rfl, mw 28 25 rfl rfl, TX4, 11, tyX4, cl_X4⟩
theorem cb_X4_139 : CBV RX4 139 yX8_createSheet cX8_createSheet 7 (some .int) 4 9 := ⟨⟨mw 30 14 rfl rfl, mw 0 16 rfl rfl, mw 6 20 rfl rfl, by decide, by decide, by decide +kernel⟩, mw 6 18 rfl rfl, mw 6 19 rfl rfl, TX8, 3, tyX8, cl_X8⟩
theorem cb_X4_143 : CBV RX4 143 yX8_setCell cX8_setCell 4 none 3 9 := ⟨⟨mw 30 15 rfl rfl, mw 0 16 rfl rfl, mw 7 1 rfl rfl, by decide, by decide, by decide +kernel⟩, mw 6 31 rfl rfl, mw 7 0 rfl rfl, TX8, 3, tyX8, cl_X8⟩
section
variable {p : Program} {l : Launch} {e : Env} {s : State} {m : MethodId} {args : Array Value} {below : List Frame} {meth : Method} {c : Code} {Q : State → Prop} {g : Geo}
def I_X4_begin : List (Nat × Instr × Nat) := [(0, .aload_n 0, 1), (1, .aload_n 1, 1), (2, .iload_n 2, 1), (3, .invokevirtual 80, 3), (6, .putfield 18, 3), (9, .aload_n 0, 1), (10, .aload_n 1, 1), (11, .iload_n 2, 1), (12, .invokevirtual 83, 3), (15, .putfield 22, 3), (18, .return_, 1)]
set_option maxRecDepth 100000 in
theorem T_X4_begin : ∀ q ∈ I_X4_begin, decode cX4_begin q.1 = .ok (q.2.1, q.2.2) := by decide +kernel
def f_X4_begin_0 (t1 : Nat) (x2 : Int32) (σ : St) : Option (St) :=
  (f_X8_columnsOf t1 x2 σ).bind fun q1 => (f_X8_rowsOf t1 x2 (up σ 89 2 q1)).bind fun q2 => some (up (up σ 89 2 q1) 89 3 q2)
set_option maxHeartbeats 4000000 in
set_option maxRecDepth 100000 in
theorem w_X4_begin_0 (X : Cx g RX4 cX4_begin 3 none p s m args meth c) (t1 : Nat) (hk1 : kd t1 = 9) (x2 : Int32) (σ : St) {w : St} (KR : ∀ (H : Heap) (locs : List Loc) (ls : Array Slot) (pc : Nat), Wd g s w H locs → decode cX4_begin pc = .ok (.return_, 1) → W p l e (rmm 2 44) s m args below meth c H locs 0 0 Q (F0 m pc ls [])) {H : Heap} {locs : List Loc} {ls : Array Slot} (Y : Wd g s σ H locs) (hl : lv_has ls 3 [(0, .ref (g.2.2 (89))), (1, .ref (g.2.2 (t1))), (2, .int (x2))]) (h : f_X4_begin_0 t1 x2 σ = some w) : W p l e (rmm 2 44) s m args below meth c H locs 0 0 Q (F0 m 0 ls []) := by
  unfold f_X4_begin_0 at h
  refine lv_aload_n X.1 X.2.1 (dk T_X4_begin 0 rfl) rfl (lv_at hl 0 rfl) ?_
  refine lv_aload_n X.1 X.2.1 (dk T_X4_begin 1 rfl) rfl (lv_at hl 1 rfl) ?_
  refine lv_iload_n X.1 X.2.1 (dk T_X4_begin 2 rfl) rfl (lv_at hl 2 rfl) ?_
  obtain ⟨q1, hq1, h⟩ := bs h
  refine gvI (rest := [.ref (g.2.2 (89))]) X Y (c_X8_columnsOf t1 hk1 x2 σ hq1) cb_X4_80 hk1 hl.1 rfl rfl (Nat.le_of_ble_eq_true rfl) ⟨Nat.le_of_ble_eq_true rfl, Nat.le_of_ble_eq_true rfl⟩ (dk T_X4_begin 3 rfl) (fun H locs Y => ?_)
  refine gp X Y fp_X4_18 rfl (nar_int _) (dk T_X4_begin 4 rfl) (fun H locs Y => ?_)
  refine lv_aload_n X.1 X.2.1 (dk T_X4_begin 5 rfl) rfl (lv_at hl 0 rfl) ?_
  refine lv_aload_n X.1 X.2.1 (dk T_X4_begin 6 rfl) rfl (lv_at hl 1 rfl) ?_
  refine lv_iload_n X.1 X.2.1 (dk T_X4_begin 7 rfl) rfl (lv_at hl 2 rfl) ?_
  obtain ⟨q2, hq2, h⟩ := bs h
  refine gvI (rest := [.ref (g.2.2 (89))]) X Y (c_X8_rowsOf t1 hk1 x2 (up σ 89 2 q1) hq2) cb_X4_83 hk1 hl.1 rfl rfl (Nat.le_of_ble_eq_true rfl) ⟨Nat.le_of_ble_eq_true rfl, Nat.le_of_ble_eq_true rfl⟩ (dk T_X4_begin 8 rfl) (fun H locs Y => ?_)
  refine gp X Y fp_X4_22 rfl (nar_int _) (dk T_X4_begin 9 rfl) (fun H locs Y => ?_)
  obtain rfl := Option.some.inj h
  exact KR _ _ _ _ Y (dk T_X4_begin 10 rfl)
def f_X4_begin (t1 : Nat) (x2 : Int32) (σ : St) : Option (St) := f_X4_begin_0 t1 x2 σ
set_option maxHeartbeats 4000000 in
set_option maxRecDepth 100000 in
theorem c_X4_begin {l : Launch} {g : Geo} (t1 : Nat) (hk1 : kd t1 = 9) (x2 : Int32) (σ : St) {w : St} (h : f_X4_begin t1 x2 σ = some w) : CtV l yX4_begin cX4_begin 3 none (rmm 2 44) g [.ref (g.2.2 (89)), .ref (g.2.2 (t1)), .int (x2)] σ w := enV (by decide) rfl (Nat.le_of_ble_eq_true rfl) (fun p e s m args below meth c Q X Y ls hl KR => w_X4_begin_0 X t1 hk1 x2 σ KR Y hl h)
def I_X4_labelAt : List (Nat × Instr × Nat) := [(0, .iload_n 1, 1), (1, .ifCond .lt 34, 3), (4, .iload_n 1, 1), (5, .aload_n 0, 1), (6, .getfield 18, 3), (9, .aload_n 0, 1), (10, .getfield 22, 3), (13, .imul, 1), (14, .if_icmp .ge 21, 3), (17, .iload_n 1, 1), (18, .aload_n 0, 1), (19, .getfield 9, 3), (22, .arraylength, 1), (23, .if_icmp .ge 12, 3), (26, .aload_n 0, 1), (27, .getfield 9, 3), (30, .iload_n 1, 1), (31, .iaload, 1), (32, .goto 5, 3), (35, .bipush (-2), 2), (37, .ireturn, 1)]
set_option maxRecDepth 100000 in
theorem T_X4_labelAt : ∀ q ∈ I_X4_labelAt, decode cX4_labelAt q.1 = .ok (q.2.1, q.2.2) := by decide +kernel
def f_X4_labelAt_j35 (σ : St) : Option (Int32) :=
  some (-2)
set_option maxHeartbeats 4000000 in
set_option maxRecDepth 100000 in
theorem w_X4_labelAt_j35 (X : Cx g RX4 cX4_labelAt 2 (some .int) p s m args meth c) (σ : St) {w : Int32} (KR : ∀ (H : Heap) (locs : List Loc) (ls : Array Slot) (pc : Nat), Wd g s σ H locs → decode cX4_labelAt pc = .ok (.ireturn, 1) → W p l e (rmm 0 0) s m args below meth c H locs 0 0 Q (F0 m pc ls [.int (w)])) {H : Heap} {locs : List Loc} {ls : Array Slot} (Y : Wd g s σ H locs) (hl : lv_has ls 2 []) (h : f_X4_labelAt_j35 σ = some w) : W p l e (rmm 0 0) s m args below meth c H locs 0 0 Q (F0 m 35 ls []) := by
  unfold f_X4_labelAt_j35 at h
  refine lv_bipush (v := (-2)) X.1 X.2.1 (dk T_X4_labelAt 19 rfl) bp_m2 ?_
  obtain rfl := Option.some.inj h
  exact KR _ _ _ _ Y (dk T_X4_labelAt 20 rfl)
def f_X4_labelAt_0 (x1 : Int32) (σ : St) : Option (Int32) :=
  if x1 < 0 then f_X4_labelAt_j35 σ else if ((σ 89 2) * (σ 89 3)) ≤ x1 then f_X4_labelAt_j35 σ else if 100 ≤ x1 then f_X4_labelAt_j35 σ else chk (inb x1 100) (some (σ 90 x1.toNatClampNeg))
set_option maxHeartbeats 4000000 in
set_option maxRecDepth 100000 in
theorem w_X4_labelAt_0 (X : Cx g RX4 cX4_labelAt 2 (some .int) p s m args meth c) (x1 : Int32) (σ : St) {w : Int32} (KR : ∀ (H : Heap) (locs : List Loc) (ls : Array Slot) (pc : Nat), Wd g s σ H locs → decode cX4_labelAt pc = .ok (.ireturn, 1) → W p l e (rmm 0 0) s m args below meth c H locs 0 0 Q (F0 m pc ls [.int (w)])) {H : Heap} {locs : List Loc} {ls : Array Slot} (Y : Wd g s σ H locs) (hl : lv_has ls 2 [(0, .ref (g.2.2 (89))), (1, .int (x1))]) (h : f_X4_labelAt_0 x1 σ = some w) : W p l e (rmm 0 0) s m args below meth c H locs 0 0 Q (F0 m 0 ls []) := by
  unfold f_X4_labelAt_0 at h
  refine lv_iload_n X.1 X.2.1 (dk T_X4_labelAt 0 rfl) rfl (lv_at hl 1 rfl) ?_
  refine lv_if_lt (tgt := 35) X.1 X.2.1 (dk T_X4_labelAt 1 rfl) rfl (fun c1 => ?_) (fun c1 => ?_)
  · replace h := ipos c1 h
    exact w_X4_labelAt_j35 X σ KR Y (lv_sub hl [] rfl) h
  · replace h := ineg c1 h
    refine lv_iload_n X.1 X.2.1 (dk T_X4_labelAt 2 rfl) rfl (lv_at hl 1 rfl) ?_
    refine lv_aload_n X.1 X.2.1 (dk T_X4_labelAt 3 rfl) rfl (lv_at hl 0 rfl) ?_
    refine gg X Y fl_X4_18 rfl rfl (dk T_X4_labelAt 4 rfl) ?_
    refine lv_aload_n X.1 X.2.1 (dk T_X4_labelAt 5 rfl) rfl (lv_at hl 0 rfl) ?_
    refine gg X Y fl_X4_22 rfl rfl (dk T_X4_labelAt 6 rfl) ?_
    refine lv_imul X.1 X.2.1 (dk T_X4_labelAt 7 rfl) ?_
    refine lv_icmp_ge (tgt := 35) X.1 X.2.1 (dk T_X4_labelAt 8 rfl) rfl (fun c2 => ?_) (fun c2 => ?_)
    · replace h := ipos c2 h
      exact w_X4_labelAt_j35 X σ KR Y (lv_sub hl [] rfl) h
    · replace h := ineg c2 h
      refine lv_iload_n X.1 X.2.1 (dk T_X4_labelAt 9 rfl) rfl (lv_at hl 1 rfl) ?_
      refine lv_aload_n X.1 X.2.1 (dk T_X4_labelAt 10 rfl) rfl (lv_at hl 0 rfl) ?_
      refine gg X Y fl_X4_9 rfl rfl (dk T_X4_labelAt 11 rfl) ?_
      refine gal X Y (i := 0) (v := 100) rfl (Nat.le_of_ble_eq_true rfl) (by decide) (dk T_X4_labelAt 12 rfl) ?_
      refine lv_icmp_ge (tgt := 35) X.1 X.2.1 (dk T_X4_labelAt 13 rfl) rfl (fun c3 => ?_) (fun c3 => ?_)
      · replace h := ipos c3 h
        exact w_X4_labelAt_j35 X σ KR Y (lv_sub hl [] rfl) h
      · replace h := ineg c3 h
        refine lv_aload_n X.1 X.2.1 (dk T_X4_labelAt 14 rfl) rfl (lv_at hl 0 rfl) ?_
        refine gg X Y fl_X4_9 rfl rfl (dk T_X4_labelAt 15 rfl) ?_
        refine lv_iload_n X.1 X.2.1 (dk T_X4_labelAt 16 rfl) rfl (lv_at hl 1 rfl) ?_
        obtain ⟨g4, h⟩ := gd h
        refine gil X Y rfl (inp g4) (dk T_X4_labelAt 17 rfl) ?_
        refine lv_goto (tgt := 37) X.1 X.2.1 (dk T_X4_labelAt 18 rfl) rfl ?_
        obtain rfl := Option.some.inj h
        exact KR _ _ _ _ Y (dk T_X4_labelAt 20 rfl)
def f_X4_labelAt (x1 : Int32) (σ : St) : Option (Int32) := f_X4_labelAt_0 x1 σ
set_option maxHeartbeats 4000000 in
set_option maxRecDepth 100000 in
theorem c_X4_labelAt {l : Launch} {g : Geo} (x1 : Int32) (σ : St) {w : Int32} (h : f_X4_labelAt x1 σ = some w) : CtI l yX4_labelAt cX4_labelAt 2 (some .int) (rmm 0 0) g [.ref (g.2.2 (89)), .int (x1)] σ w σ := enI .int (by decide) rfl rfl (Nat.le_of_ble_eq_true rfl) (fun p e s m args below meth c Q X Y ls hl KR => w_X4_labelAt_0 X x1 σ KR Y hl h)
def I_X4_enter : List (Nat × Instr × Nat) := [(0, .aload_n 0, 1), (1, .iload_n 1, 1), (2, .invokevirtual 45, 3), (5, .iconst (-1), 1), (6, .if_icmp .ne 34, 3), (9, .aload_n 0, 1), (10, .getfield 9, 3), (13, .iload_n 1, 1), (14, .iload_n 2, 1), (15, .invokestatic 41, 3), (18, .aload_n 0, 1), (19, .getfield 15, 3), (22, .aload_n 0, 1), (23, .getfield 25, 3), (26, .iload_n 1, 1), (27, .invokestatic 41, 3), (30, .aload_n 0, 1), (31, .dup, 1), (32, .getfield 25, 3), (35, .iconst 1, 1), (36, .iadd, 1), (37, .putfield 25, 3), (40, .return_, 1)]
set_option maxRecDepth 100000 in
theorem T_X4_enter : ∀ q ∈ I_X4_enter, decode cX4_enter q.1 = .ok (q.2.1, q.2.2) := by decide +kernel
def f_X4_enter_0 (x1 : Int32) (x2 : Int32) (σ : St) : Option (St) :=
  (f_X4_labelAt x1 σ).bind fun q1 => if q1 = (-1) then (f_X10_put 90 x1 x2 σ).bind fun q3 => (f_X10_put 91 (q3 89 4) x1 q3).bind fun q4 => some (up q4 89 4 ((q4 89 4) + 1)) else some σ
set_option maxHeartbeats 4000000 in
set_option maxRecDepth 100000 in
theorem w_X4_enter_0 (X : Cx g RX4 cX4_enter 3 none p s m args meth c) (x1 : Int32) (x2 : Int32) (σ : St) {w : St} (KR : ∀ (H : Heap) (locs : List Loc) (ls : Array Slot) (pc : Nat), Wd g s w H locs → decode cX4_enter pc = .ok (.return_, 1) → W p l e (rmm 1 22) s m args below meth c H locs 0 0 Q (F0 m pc ls [])) {H : Heap} {locs : List Loc} {ls : Array Slot} (Y : Wd g s σ H locs) (hl : lv_has ls 3 [(0, .ref (g.2.2 (89))), (1, .int (x1)), (2, .int (x2))]) (h : f_X4_enter_0 x1 x2 σ = some w) : W p l e (rmm 1 22) s m args below meth c H locs 0 0 Q (F0 m 0 ls []) := by
  unfold f_X4_enter_0 at h
  refine lv_aload_n X.1 X.2.1 (dk T_X4_enter 0 rfl) rfl (lv_at hl 0 rfl) ?_
  refine lv_iload_n X.1 X.2.1 (dk T_X4_enter 1 rfl) rfl (lv_at hl 1 rfl) ?_
  obtain ⟨q1, hq1, h⟩ := bs h
  refine gvI (rest := []) X Y (c_X4_labelAt x1 σ hq1) cb_X4_45 rfl hl.1 rfl rfl (Nat.le_of_ble_eq_true rfl) ⟨Nat.le_of_ble_eq_true rfl, Nat.le_of_ble_eq_true rfl⟩ (dk T_X4_enter 2 rfl) (fun H locs Y => ?_)
  refine lv_iconst (v := (-1)) X.1 X.2.1 (dk T_X4_enter 3 rfl) ic_m1 ?_
  refine lv_icmp_ne (tgt := 40) X.1 X.2.1 (dk T_X4_enter 4 rfl) rfl (fun c2 => ?_) (fun c2 => ?_)
  · replace h := ineg c2 h
    obtain rfl := Option.some.inj h
    exact KR _ _ _ _ Y (dk T_X4_enter 22 rfl)
  · replace h := ipos c2 h
    refine lv_aload_n X.1 X.2.1 (dk T_X4_enter 5 rfl) rfl (lv_at hl 0 rfl) ?_
    refine gg X Y fl_X4_9 rfl rfl (dk T_X4_enter 6 rfl) ?_
    refine lv_iload_n X.1 X.2.1 (dk T_X4_enter 7 rfl) rfl (lv_at hl 1 rfl) ?_
    refine lv_iload_n X.1 X.2.1 (dk T_X4_enter 8 rfl) rfl (lv_at hl 2 rfl) ?_
    obtain ⟨q3, hq3, h⟩ := bs h
    refine gsVN (rest := []) X Y (c_X10_put 90 rfl x1 x2 σ hq3) cb_X4_41 hl.1 rfl rfl (Nat.le_of_ble_eq_true rfl) ⟨Nat.le_of_ble_eq_true rfl, Nat.le_of_ble_eq_true rfl⟩ (dk T_X4_enter 9 rfl) (fun H locs Y => ?_)
    refine lv_aload_n X.1 X.2.1 (dk T_X4_enter 10 rfl) rfl (lv_at hl 0 rfl) ?_
    refine gg X Y fl_X4_15 rfl rfl (dk T_X4_enter 11 rfl) ?_
    refine lv_aload_n X.1 X.2.1 (dk T_X4_enter 12 rfl) rfl (lv_at hl 0 rfl) ?_
    refine gg X Y fl_X4_25 rfl rfl (dk T_X4_enter 13 rfl) ?_
    refine lv_iload_n X.1 X.2.1 (dk T_X4_enter 14 rfl) rfl (lv_at hl 1 rfl) ?_
    obtain ⟨q4, hq4, h⟩ := bs h
    refine gsVN (rest := []) X Y (c_X10_put 91 rfl (q3 89 4) x1 q3 hq4) cb_X4_41 hl.1 rfl rfl (Nat.le_of_ble_eq_true rfl) ⟨Nat.le_of_ble_eq_true rfl, Nat.le_of_ble_eq_true rfl⟩ (dk T_X4_enter 15 rfl) (fun H locs Y => ?_)
    refine lv_aload_n X.1 X.2.1 (dk T_X4_enter 16 rfl) rfl (lv_at hl 0 rfl) ?_
    refine lv_dup X.1 X.2.1 (dk T_X4_enter 17 rfl) rfl ?_
    refine gg X Y fl_X4_25 rfl rfl (dk T_X4_enter 18 rfl) ?_
    refine lv_iconst (v := 1) X.1 X.2.1 (dk T_X4_enter 19 rfl) ic_1 ?_
    refine lv_iadd X.1 X.2.1 (dk T_X4_enter 20 rfl) ?_
    refine gp X Y fp_X4_25 rfl (nar_int _) (dk T_X4_enter 21 rfl) (fun H locs Y => ?_)
    obtain rfl := Option.some.inj h
    exact KR _ _ _ _ Y (dk T_X4_enter 22 rfl)
def f_X4_enter (x1 : Int32) (x2 : Int32) (σ : St) : Option (St) := f_X4_enter_0 x1 x2 σ
set_option maxHeartbeats 4000000 in
set_option maxRecDepth 100000 in
theorem c_X4_enter {l : Launch} {g : Geo} (x1 : Int32) (x2 : Int32) (σ : St) {w : St} (h : f_X4_enter x1 x2 σ = some w) : CtV l yX4_enter cX4_enter 3 none (rmm 1 22) g [.ref (g.2.2 (89)), .int (x1), .int (x2)] σ w := enV (by decide) rfl (Nat.le_of_ble_eq_true rfl) (fun p e s m args below meth c Q X Y ls hl KR => w_X4_enter_0 X x1 x2 σ KR Y hl h)
def I_X4_spread : List (Nat × Instr × Nat) := [(0, .aload_n 0, 1), (1, .iconst 0, 1), (2, .putfield 25, 3), (5, .aload_n 0, 1), (6, .iload_n 1, 1), (7, .iload_n 2, 1), (8, .invokevirtual 86, 3), (11, .iconst 0, 1), (12, .istore_n 3, 1), (13, .iload_n 3, 1), (14, .aload_n 0, 1), (15, .getfield 25, 3), (18, .if_icmp .ge 103, 3), (21, .iload_n 3, 1), (22, .bipush 100, 2), (24, .if_icmp .ge 97, 3), (27, .aload_n 0, 1), (28, .getfield 15, 3), (31, .iload_n 3, 1), (32, .invokestatic 89, 3), (35, .istore 4, 2), (37, .aload_n 0, 1), (38, .getfield 18, 3), (41, .ifCond .le 13, 3), (44, .iload 4, 2), (46, .aload_n 0, 1), (47, .getfield 18, 3), (50, .irem, 1), (51, .goto 4, 3), (54, .iconst 0, 1), (55, .istore 5, 2), (57, .iload 5, 2), (59, .ifCond .le 12, 3), (62, .aload_n 0, 1), (63, .iload 4, 2), (65, .iconst 1, 1), (66, .isub, 1), (67, .iload_n 2, 1), (68, .invokevirtual 86, 3), (71, .iload 5, 2), (73, .aload_n 0, 1), (74, .getfield 18, 3), (77, .iconst 1, 1), (78, .isub, 1), (79, .if_icmp .ge 12, 3), (82, .aload_n 0, 1), (83, .iload 4, 2), (85, .iconst 1, 1), (86, .iadd, 1), (87, .iload_n 2, 1), (88, .invokevirtual 86, 3), (91, .aload_n 0, 1), (92, .iload 4, 2), (94, .aload_n 0, 1), (95, .getfield 18, 3), (98, .isub, 1), (99, .iload_n 2, 1), (100, .invokevirtual 86, 3), (103, .aload_n 0, 1), (104, .iload 4, 2), (106, .aload_n 0, 1), (107, .getfield 18, 3), (110, .iadd, 1), (111, .iload_n 2, 1), (112, .invokevirtual 86, 3), (115, .iinc 3 1, 3), (118, .goto (-105), 3), (121, .return_, 1)]
set_option maxRecDepth 100000 in
theorem T_X4_spread : ∀ q ∈ I_X4_spread, decode cX4_spread q.1 = .ok (q.2.1, q.2.2) := by decide +kernel
def f_X4_spread_j91 (x2 : Int32) (x3 : Int32) (x4 : Int32) (σ : St) : Option ((Int32 × St) ⊕ (St)) :=
  (f_X4_enter (x4 - (σ 89 2)) x2 σ).bind fun q8 => (f_X4_enter (x4 + (q8 89 2)) x2 q8).bind fun q9 => some (.inl (x3 + 1, q9))
set_option maxHeartbeats 4000000 in
set_option maxRecDepth 100000 in
theorem w_X4_spread_j91 (X : Cx g RX4 cX4_spread 6 none p s m args meth c) (x2 : Int32) (x3 : Int32) (x4 : Int32) (σ : St) {w : (Int32 × St) ⊕ (St)} (KB : ∀ (v0_ : Int32) (v1_ : St), w = .inl (v0_, v1_) → ∀ (H : Heap) (locs : List Loc) (ls : Array Slot), Wd g s v1_ H locs → lv_has ls 6 [(0, .ref (g.2.2 (89))), (2, .int (x2)), (3, .int (v0_))] → W p l e (rmm 2 44) s m args below meth c H locs 0 0 Q (F0 m 13 ls [])) (KX0 : ∀ (v : St), w = .inr v → ∀ (H : Heap) (locs : List Loc) (ls : Array Slot), Wd g s v H locs → lv_has ls 6 [] → W p l e (rmm 2 44) s m args below meth c H locs 0 0 Q (F0 m 121 ls [])) {H : Heap} {locs : List Loc} {ls : Array Slot} (Y : Wd g s σ H locs) (hl : lv_has ls 6 [(0, .ref (g.2.2 (89))), (2, .int (x2)), (3, .int (x3)), (4, .int (x4))]) (h : f_X4_spread_j91 x2 x3 x4 σ = some w) : W p l e (rmm 2 44) s m args below meth c H locs 0 0 Q (F0 m 91 ls []) := by
  unfold f_X4_spread_j91 at h
  refine lv_aload_n X.1 X.2.1 (dk T_X4_spread 51 rfl) rfl (lv_at hl 0 rfl) ?_
  refine lv_iload X.1 X.2.1 (dk T_X4_spread 52 rfl) (lv_at hl 3 rfl) ?_
  refine lv_aload_n X.1 X.2.1 (dk T_X4_spread 53 rfl) rfl (lv_at hl 0 rfl) ?_
  refine gg X Y fl_X4_18 rfl rfl (dk T_X4_spread 54 rfl) ?_
  refine lv_isub X.1 X.2.1 (dk T_X4_spread 55 rfl) ?_
  refine lv_iload_n X.1 X.2.1 (dk T_X4_spread 56 rfl) rfl (lv_at hl 1 rfl) ?_
  obtain ⟨q8, hq8, h⟩ := bs h
  refine gvV (rest := []) X Y (c_X4_enter (x4 - (σ 89 2)) x2 σ hq8) cb_X4_86 rfl hl.1 rfl rfl (Nat.le_of_ble_eq_true rfl) ⟨Nat.le_of_ble_eq_true rfl, Nat.le_of_ble_eq_true rfl⟩ (dk T_X4_spread 57 rfl) (fun H locs Y => ?_)
  refine lv_aload_n X.1 X.2.1 (dk T_X4_spread 58 rfl) rfl (lv_at hl 0 rfl) ?_
  refine lv_iload X.1 X.2.1 (dk T_X4_spread 59 rfl) (lv_at hl 3 rfl) ?_
  refine lv_aload_n X.1 X.2.1 (dk T_X4_spread 60 rfl) rfl (lv_at hl 0 rfl) ?_
  refine gg X Y fl_X4_18 rfl rfl (dk T_X4_spread 61 rfl) ?_
  refine lv_iadd X.1 X.2.1 (dk T_X4_spread 62 rfl) ?_
  refine lv_iload_n X.1 X.2.1 (dk T_X4_spread 63 rfl) rfl (lv_at hl 1 rfl) ?_
  obtain ⟨q9, hq9, h⟩ := bs h
  refine gvV (rest := []) X Y (c_X4_enter (x4 + (q8 89 2)) x2 q8 hq9) cb_X4_86 rfl hl.1 rfl rfl (Nat.le_of_ble_eq_true rfl) ⟨Nat.le_of_ble_eq_true rfl, Nat.le_of_ble_eq_true rfl⟩ (dk T_X4_spread 64 rfl) (fun H locs Y => ?_)
  refine lv_iinc (v := x3 + 1) (lv' := [(3, .int (x3 + 1)), (0, .ref (g.2.2 (89))), (2, .int (x2)), (4, .int (x4))]) X.1 X.2.1 (dk T_X4_spread 65 rfl) hl (k := 2) rfl (icx ic_1) (Nat.le_of_ble_eq_true rfl) rfl (fun ls hl => ?_)
  refine lv_goto (tgt := 13) X.1 X.2.1 (dk T_X4_spread 66 rfl) rfl ?_
  exact KB (x3 + 1) q9 (Option.some.inj h).symm _ _ _ Y (lv_sub hl [1, 2, 0] rfl)
def f_X4_spread_j71 (x2 : Int32) (x3 : Int32) (x4 : Int32) (x5 : Int32) (σ : St) : Option ((Int32 × St) ⊕ (St)) :=
  if ((σ 89 2) - 1) ≤ x5 then f_X4_spread_j91 x2 x3 x4 σ else (f_X4_enter (x4 + 1) x2 σ).bind fun q10 => f_X4_spread_j91 x2 x3 x4 q10
set_option maxHeartbeats 4000000 in
set_option maxRecDepth 100000 in
theorem w_X4_spread_j71 (X : Cx g RX4 cX4_spread 6 none p s m args meth c) (x2 : Int32) (x3 : Int32) (x4 : Int32) (x5 : Int32) (σ : St) {w : (Int32 × St) ⊕ (St)} (KB : ∀ (v0_ : Int32) (v1_ : St), w = .inl (v0_, v1_) → ∀ (H : Heap) (locs : List Loc) (ls : Array Slot), Wd g s v1_ H locs → lv_has ls 6 [(0, .ref (g.2.2 (89))), (2, .int (x2)), (3, .int (v0_))] → W p l e (rmm 2 44) s m args below meth c H locs 0 0 Q (F0 m 13 ls [])) (KX0 : ∀ (v : St), w = .inr v → ∀ (H : Heap) (locs : List Loc) (ls : Array Slot), Wd g s v H locs → lv_has ls 6 [] → W p l e (rmm 2 44) s m args below meth c H locs 0 0 Q (F0 m 121 ls [])) {H : Heap} {locs : List Loc} {ls : Array Slot} (Y : Wd g s σ H locs) (hl : lv_has ls 6 [(0, .ref (g.2.2 (89))), (2, .int (x2)), (3, .int (x3)), (4, .int (x4)), (5, .int (x5))]) (h : f_X4_spread_j71 x2 x3 x4 x5 σ = some w) : W p l e (rmm 2 44) s m args below meth c H locs 0 0 Q (F0 m 71 ls []) := by
  unfold f_X4_spread_j71 at h
  refine lv_iload X.1 X.2.1 (dk T_X4_spread 39 rfl) (lv_at hl 4 rfl) ?_
  refine lv_aload_n X.1 X.2.1 (dk T_X4_spread 40 rfl) rfl (lv_at hl 0 rfl) ?_
  refine gg X Y fl_X4_18 rfl rfl (dk T_X4_spread 41 rfl) ?_
  refine lv_iconst (v := 1) X.1 X.2.1 (dk T_X4_spread 42 rfl) ic_1 ?_
  refine lv_isub X.1 X.2.1 (dk T_X4_spread 43 rfl) ?_
  refine lv_icmp_ge (tgt := 91) X.1 X.2.1 (dk T_X4_spread 44 rfl) rfl (fun c7 => ?_) (fun c7 => ?_)
  · replace h := ipos c7 h
    exact w_X4_spread_j91 X x2 x3 x4 σ KB KX0 Y (lv_sub hl [0, 1, 2, 3] rfl) h
  · replace h := ineg c7 h
    refine lv_aload_n X.1 X.2.1 (dk T_X4_spread 45 rfl) rfl (lv_at hl 0 rfl) ?_
    refine lv_iload X.1 X.2.1 (dk T_X4_spread 46 rfl) (lv_at hl 3 rfl) ?_
    refine lv_iconst (v := 1) X.1 X.2.1 (dk T_X4_spread 47 rfl) ic_1 ?_
    refine lv_iadd X.1 X.2.1 (dk T_X4_spread 48 rfl) ?_
    refine lv_iload_n X.1 X.2.1 (dk T_X4_spread 49 rfl) rfl (lv_at hl 1 rfl) ?_
    obtain ⟨q10, hq10, h⟩ := bs h
    refine gvV (rest := []) X Y (c_X4_enter (x4 + 1) x2 σ hq10) cb_X4_86 rfl hl.1 rfl rfl (Nat.le_of_ble_eq_true rfl) ⟨Nat.le_of_ble_eq_true rfl, Nat.le_of_ble_eq_true rfl⟩ (dk T_X4_spread 50 rfl) (fun H locs Y => ?_)
    exact w_X4_spread_j91 X x2 x3 x4 q10 KB KX0 Y (lv_sub hl [0, 1, 2, 3] rfl) h
def f_X4_spread_j55 (x2 : Int32) (x3 : Int32) (x4 : Int32) (s0 : Int32) (σ : St) : Option ((Int32 × St) ⊕ (St)) :=
  if s0 ≤ 0 then f_X4_spread_j71 x2 x3 x4 s0 σ else (f_X4_enter (x4 - 1) x2 σ).bind fun q11 => f_X4_spread_j71 x2 x3 x4 s0 q11
set_option maxHeartbeats 4000000 in
set_option maxRecDepth 100000 in
theorem w_X4_spread_j55 (X : Cx g RX4 cX4_spread 6 none p s m args meth c) (x2 : Int32) (x3 : Int32) (x4 : Int32) (s0 : Int32) (σ : St) {w : (Int32 × St) ⊕ (St)} (KB : ∀ (v0_ : Int32) (v1_ : St), w = .inl (v0_, v1_) → ∀ (H : Heap) (locs : List Loc) (ls : Array Slot), Wd g s v1_ H locs → lv_has ls 6 [(0, .ref (g.2.2 (89))), (2, .int (x2)), (3, .int (v0_))] → W p l e (rmm 2 44) s m args below meth c H locs 0 0 Q (F0 m 13 ls [])) (KX0 : ∀ (v : St), w = .inr v → ∀ (H : Heap) (locs : List Loc) (ls : Array Slot), Wd g s v H locs → lv_has ls 6 [] → W p l e (rmm 2 44) s m args below meth c H locs 0 0 Q (F0 m 121 ls [])) {H : Heap} {locs : List Loc} {ls : Array Slot} (Y : Wd g s σ H locs) (hl : lv_has ls 6 [(0, .ref (g.2.2 (89))), (2, .int (x2)), (3, .int (x3)), (4, .int (x4))]) (h : f_X4_spread_j55 x2 x3 x4 s0 σ = some w) : W p l e (rmm 2 44) s m args below meth c H locs 0 0 Q (F0 m 55 ls [.int (s0)]) := by
  unfold f_X4_spread_j55 at h
  refine lv_istore (lv' := [(5, .int (s0)), (0, .ref (g.2.2 (89))), (2, .int (x2)), (3, .int (x3)), (4, .int (x4))]) X.1 X.2.1 (dk T_X4_spread 30 rfl) hl (Nat.le_of_ble_eq_true rfl) rfl (fun ls hl => ?_)
  refine lv_iload X.1 X.2.1 (dk T_X4_spread 31 rfl) (lv_at hl 0 rfl) ?_
  refine lv_if_le (tgt := 71) X.1 X.2.1 (dk T_X4_spread 32 rfl) rfl (fun c6 => ?_) (fun c6 => ?_)
  · replace h := ipos c6 h
    exact w_X4_spread_j71 X x2 x3 x4 s0 σ KB KX0 Y (lv_sub hl [1, 2, 3, 4, 0] rfl) h
  · replace h := ineg c6 h
    refine lv_aload_n X.1 X.2.1 (dk T_X4_spread 33 rfl) rfl (lv_at hl 1 rfl) ?_
    refine lv_iload X.1 X.2.1 (dk T_X4_spread 34 rfl) (lv_at hl 4 rfl) ?_
    refine lv_iconst (v := 1) X.1 X.2.1 (dk T_X4_spread 35 rfl) ic_1 ?_
    refine lv_isub X.1 X.2.1 (dk T_X4_spread 36 rfl) ?_
    refine lv_iload_n X.1 X.2.1 (dk T_X4_spread 37 rfl) rfl (lv_at hl 2 rfl) ?_
    obtain ⟨q11, hq11, h⟩ := bs h
    refine gvV (rest := []) X Y (c_X4_enter (x4 - 1) x2 σ hq11) cb_X4_86 rfl hl.1 rfl rfl (Nat.le_of_ble_eq_true rfl) ⟨Nat.le_of_ble_eq_true rfl, Nat.le_of_ble_eq_true rfl⟩ (dk T_X4_spread 38 rfl) (fun H locs Y => ?_)
    exact w_X4_spread_j71 X x2 x3 x4 s0 q11 KB KX0 Y (lv_sub hl [1, 2, 3, 4, 0] rfl) h
def f_X4_spread_l13 (x2 : Int32) (z : Int32 × St) : Option ((Int32 × St) ⊕ (St)) :=
  if (z.2 89 4) ≤ z.1 then some (.inr z.2) else if 100 ≤ z.1 then some (.inr z.2) else (f_X10_at 91 z.1 z.2).bind fun q4 => if (z.2 89 2) ≤ 0 then f_X4_spread_j55 x2 z.1 q4 0 z.2 else chk (nz (z.2 89 2)) (f_X4_spread_j55 x2 z.1 q4 (q4 - q4 / (z.2 89 2) * (z.2 89 2)) z.2)
set_option maxHeartbeats 4000000 in
set_option maxRecDepth 100000 in
theorem w_X4_spread_l13 (X : Cx g RX4 cX4_spread 6 none p s m args meth c) (x2 : Int32) (σ : St) {r : St} (KX0 : ∀ (v : St), r = v → ∀ (H : Heap) (locs : List Loc) (ls : Array Slot), Wd g s v H locs → lv_has ls 6 [] → W p l e (rmm 2 44) s m args below meth c H locs 0 0 Q (F0 m 121 ls [])) : ∀ (n : Nat) (z : Int32 × St) {H : Heap} {locs : List Loc} {ls : Array Slot}, Wd g s z.2 H locs → lv_has ls 6 [(0, .ref (g.2.2 (89))), (2, .int (x2)), (3, .int (z.1))] → lp (f_X4_spread_l13 x2) n z = some r → W p l e (rmm 2 44) s m args below meth c H locs 0 0 Q (F0 m 13 ls []) := by
  intro n
  induction n with
  | zero => intro z H locs ls Y hl h; cases h
  | succ n ih =>
    intro z H locs ls Y hl h
    obtain ⟨w, h, hw⟩ := lps h
    have KB : ∀ (v0_ : Int32) (v1_ : St), w = .inl (v0_, v1_) → ∀ (H : Heap) (locs : List Loc) (ls : Array Slot), Wd g s v1_ H locs → lv_has ls 6 [(0, .ref (g.2.2 (89))), (2, .int (x2)), (3, .int (v0_))] → W p l e (rmm 2 44) s m args below meth c H locs 0 0 Q (F0 m 13 ls []) := fun v0_ v1_ e H locs ls Y hl => ih (v0_, v1_) Y hl (lpl hw e)
    have KX0 := fun (v : St) (e : w = .inr v) => KX0 v (lpr hw e)
    unfold f_X4_spread_l13 at h
    refine lv_iload_n X.1 X.2.1 (dk T_X4_spread 9 rfl) rfl (lv_at hl 2 rfl) ?_
    refine lv_aload_n X.1 X.2.1 (dk T_X4_spread 10 rfl) rfl (lv_at hl 0 rfl) ?_
    refine gg X Y fl_X4_25 rfl rfl (dk T_X4_spread 11 rfl) ?_
    refine lv_icmp_ge (tgt := 121) X.1 X.2.1 (dk T_X4_spread 12 rfl) rfl (fun c2 => ?_) (fun c2 => ?_)
    · replace h := ipos c2 h
      exact KX0 z.2 (Option.some.inj h).symm _ _ _ Y (lv_sub hl [] rfl)
    · replace h := ineg c2 h
      refine lv_iload_n X.1 X.2.1 (dk T_X4_spread 13 rfl) rfl (lv_at hl 2 rfl) ?_
      refine lv_bipush (v := 100) X.1 X.2.1 (dk T_X4_spread 14 rfl) bp_100 ?_
      refine lv_icmp_ge (tgt := 121) X.1 X.2.1 (dk T_X4_spread 15 rfl) rfl (fun c3 => ?_) (fun c3 => ?_)
      · replace h := ipos c3 h
        exact KX0 z.2 (Option.some.inj h).symm _ _ _ Y (lv_sub hl [] rfl)
      · replace h := ineg c3 h
        refine lv_aload_n X.1 X.2.1 (dk T_X4_spread 16 rfl) rfl (lv_at hl 0 rfl) ?_
        refine gg X Y fl_X4_15 rfl rfl (dk T_X4_spread 17 rfl) ?_
        refine lv_iload_n X.1 X.2.1 (dk T_X4_spread 18 rfl) rfl (lv_at hl 2 rfl) ?_
        obtain ⟨q4, hq4, h⟩ := bs h
        refine gsIN (rest := []) X Y (c_X10_at 91 rfl z.1 z.2 hq4) cb_X4_89 hl.1 rfl rfl (Nat.le_of_ble_eq_true rfl) ⟨Nat.le_of_ble_eq_true rfl, Nat.le_of_ble_eq_true rfl⟩ (dk T_X4_spread 19 rfl) (fun H locs Y => ?_)
        refine lv_istore (lv' := [(4, .int (q4)), (0, .ref (g.2.2 (89))), (2, .int (x2)), (3, .int (z.1))]) X.1 X.2.1 (dk T_X4_spread 20 rfl) hl (Nat.le_of_ble_eq_true rfl) rfl (fun ls hl => ?_)
        refine lv_aload_n X.1 X.2.1 (dk T_X4_spread 21 rfl) rfl (lv_at hl 1 rfl) ?_
        refine gg X Y fl_X4_18 rfl rfl (dk T_X4_spread 22 rfl) ?_
        refine lv_if_le (tgt := 54) X.1 X.2.1 (dk T_X4_spread 23 rfl) rfl (fun c5 => ?_) (fun c5 => ?_)
        · replace h := ipos c5 h
          refine lv_iconst (v := 0) X.1 X.2.1 (dk T_X4_spread 29 rfl) ic_0 ?_
          exact w_X4_spread_j55 X x2 z.1 q4 0 z.2 KB KX0 Y (lv_sub hl [1, 2, 3, 0] rfl) h
        · replace h := ineg c5 h
          refine lv_iload X.1 X.2.1 (dk T_X4_spread 24 rfl) (lv_at hl 0 rfl) ?_
          refine lv_aload_n X.1 X.2.1 (dk T_X4_spread 25 rfl) rfl (lv_at hl 1 rfl) ?_
          refine gg X Y fl_X4_18 rfl rfl (dk T_X4_spread 26 rfl) ?_
          obtain ⟨g12, h⟩ := gd h
          refine lv_irem X.1 X.2.1 (dk T_X4_spread 27 rfl) (nzp g12) ?_
          refine lv_goto (tgt := 55) X.1 X.2.1 (dk T_X4_spread 28 rfl) rfl ?_
          exact w_X4_spread_j55 X x2 z.1 q4 (q4 - q4 / (z.2 89 2) * (z.2 89 2)) z.2 KB KX0 Y (lv_sub hl [1, 2, 3, 0] rfl) h
def f_X4_spread_0 (x1 : Int32) (x2 : Int32) (σ : St) : Option (St) :=
  (f_X4_enter x1 x2 (up σ 89 4 0)).bind fun q1 => (lp (f_X4_spread_l13 x2) FU (0, q1)).bind fun q13 => some q13
set_option maxHeartbeats 4000000 in
set_option maxRecDepth 100000 in
theorem w_X4_spread_0 (X : Cx g RX4 cX4_spread 6 none p s m args meth c) (x1 : Int32) (x2 : Int32) (σ : St) {w : St} (KR : ∀ (H : Heap) (locs : List Loc) (ls : Array Slot) (pc : Nat), Wd g s w H locs → decode cX4_spread pc = .ok (.return_, 1) → W p l e (rmm 2 44) s m args below meth c H locs 0 0 Q (F0 m pc ls [])) {H : Heap} {locs : List Loc} {ls : Array Slot} (Y : Wd g s σ H locs) (hl : lv_has ls 6 [(0, .ref (g.2.2 (89))), (1, .int (x1)), (2, .int (x2))]) (h : f_X4_spread_0 x1 x2 σ = some w) : W p l e (rmm 2 44) s m args below meth c H locs 0 0 Q (F0 m 0 ls []) := by
  unfold f_X4_spread_0 at h
  refine lv_aload_n X.1 X.2.1 (dk T_X4_spread 0 rfl) rfl (lv_at hl 0 rfl) ?_
  refine lv_iconst (v := 0) X.1 X.2.1 (dk T_X4_spread 1 rfl) ic_0 ?_
  refine gp X Y fp_X4_25 rfl (nar_int _) (dk T_X4_spread 2 rfl) (fun H locs Y => ?_)
  refine lv_aload_n X.1 X.2.1 (dk T_X4_spread 3 rfl) rfl (lv_at hl 0 rfl) ?_
  refine lv_iload_n X.1 X.2.1 (dk T_X4_spread 4 rfl) rfl (lv_at hl 1 rfl) ?_
  refine lv_iload_n X.1 X.2.1 (dk T_X4_spread 5 rfl) rfl (lv_at hl 2 rfl) ?_
  obtain ⟨q1, hq1, h⟩ := bs h
  refine gvV (rest := []) X Y (c_X4_enter x1 x2 (up σ 89 4 0) hq1) cb_X4_86 rfl hl.1 rfl rfl (Nat.le_of_ble_eq_true rfl) ⟨Nat.le_of_ble_eq_true rfl, Nat.le_of_ble_eq_true rfl⟩ (dk T_X4_spread 6 rfl) (fun H locs Y => ?_)
  refine lv_iconst (v := 0) X.1 X.2.1 (dk T_X4_spread 7 rfl) ic_0 ?_
  refine lv_istore_n (lv' := [(3, .int (0)), (0, .ref (g.2.2 (89))), (1, .int (x1)), (2, .int (x2))]) X.1 X.2.1 (dk T_X4_spread 8 rfl) rfl hl (Nat.le_of_ble_eq_true rfl) rfl (fun ls hl => ?_)
  obtain ⟨q13, hq13, h⟩ := bs h
  refine w_X4_spread_l13 X x2 σ (fun v e H locs ls Y hl => ?_) FU (0, q1) Y (lv_sub hl [1, 3, 0] rfl) hq13
  · obtain rfl := e
    obtain rfl := Option.some.inj h
    exact KR _ _ _ _ Y (dk T_X4_spread 67 rfl)
def f_X4_spread (x1 : Int32) (x2 : Int32) (σ : St) : Option (St) := f_X4_spread_0 x1 x2 σ
set_option maxHeartbeats 4000000 in
set_option maxRecDepth 100000 in
theorem c_X4_spread {l : Launch} {g : Geo} (x1 : Int32) (x2 : Int32) (σ : St) {w : St} (h : f_X4_spread x1 x2 σ = some w) : CtV l yX4_spread cX4_spread 6 none (rmm 2 44) g [.ref (g.2.2 (89)), .int (x1), .int (x2)] σ w := enV (by decide) rfl (Nat.le_of_ble_eq_true rfl) (fun p e s m args below meth c Q X Y ls hl KR => w_X4_spread_0 X x1 x2 σ KR Y hl h)
def I_X4_findRemnants : List (Nat × Instr × Nat) := [(0, .aload_n 0, 1), (1, .aload_n 1, 1), (2, .iload_n 2, 1), (3, .invokevirtual 31, 3), (6, .iconst 0, 1), (7, .istore_n 3, 1), (8, .iload_n 3, 1), (9, .aload_n 0, 1), (10, .getfield 18, 3), (13, .aload_n 0, 1), (14, .getfield 22, 3), (17, .imul, 1), (18, .if_icmp .ge 33, 3), (21, .aload_n 0, 1), (22, .getfield 9, 3), (25, .iload_n 3, 1), (26, .aload_n 1, 1), (27, .iload_n 2, 1), (28, .iload_n 3, 1), (29, .invokevirtual 35, 3), (32, .iconst (-1), 1), (33, .if_icmp .ne 7, 3), (36, .iconst (-1), 1), (37, .goto 5, 3), (40, .bipush (-2), 2), (42, .invokestatic 41, 3), (45, .iinc 3 1, 3), (48, .goto (-40), 3), (51, .iconst 0, 1), (52, .istore_n 3, 1), (53, .iconst 0, 1), (54, .istore 4, 2), (56, .iload 4, 2), (58, .aload_n 0, 1), (59, .getfield 18, 3), (62, .aload_n 0, 1), (63, .getfield 22, 3), (66, .imul, 1), (67, .if_icmp .ge 29, 3), (70, .aload_n 0, 1), (71, .iload 4, 2), (73, .invokevirtual 45, 3), (76, .iconst (-1), 1), (77, .if_icmp .ne 13, 3), (80, .aload_n 0, 1), (81, .iload 4, 2), (83, .iload_n 3, 1), (84, .invokevirtual 49, 3), (87, .iinc 3 1, 3), (90, .iinc 4 1, 3), (93, .goto (-37), 3), (96, .iload_n 3, 1), (97, .ireturn, 1)]
set_option maxRecDepth 100000 in
theorem T_X4_findRemnants : ∀ q ∈ I_X4_findRemnants, decode cX4_findRemnants q.1 = .ok (q.2.1, q.2.2) := by decide +kernel
def f_X4_findRemnants_j42 (t1 : Nat) (x2 : Int32) (x3 : Int32) (s0 : Int32) (s1 : Int32) (σ : St) : Option ((Int32 × St) ⊕ (St)) :=
  (f_X10_put 90 s1 s0 σ).bind fun q5 => some (.inl (x3 + 1, q5))
set_option maxHeartbeats 4000000 in
set_option maxRecDepth 100000 in
theorem w_X4_findRemnants_j42 (X : Cx g RX4 cX4_findRemnants 5 (some .int) p s m args meth c) (t1 : Nat) (hk1 : kd t1 = 9) (x2 : Int32) (x3 : Int32) (s0 : Int32) (s1 : Int32) (σ : St) {w : (Int32 × St) ⊕ (St)} (KB : ∀ (v0_ : Int32) (v1_ : St), w = .inl (v0_, v1_) → ∀ (H : Heap) (locs : List Loc) (ls : Array Slot), Wd g s v1_ H locs → lv_has ls 5 [(0, .ref (g.2.2 (89))), (1, .ref (g.2.2 (t1))), (2, .int (x2)), (3, .int (v0_))] → W p l e (rmm 3 69) s m args below meth c H locs 0 0 Q (F0 m 8 ls [])) (KX0 : ∀ (v : St), w = .inr v → ∀ (H : Heap) (locs : List Loc) (ls : Array Slot), Wd g s v H locs → lv_has ls 5 [(0, .ref (g.2.2 (89)))] → W p l e (rmm 3 69) s m args below meth c H locs 0 0 Q (F0 m 51 ls [])) {H : Heap} {locs : List Loc} {ls : Array Slot} (Y : Wd g s σ H locs) (hl : lv_has ls 5 [(0, .ref (g.2.2 (89))), (1, .ref (g.2.2 (t1))), (2, .int (x2)), (3, .int (x3))]) (h : f_X4_findRemnants_j42 t1 x2 x3 s0 s1 σ = some w) : W p l e (rmm 3 69) s m args below meth c H locs 0 0 Q (F0 m 42 ls [.int (s0), .int (s1), .ref (g.2.2 (90))]) := by
  unfold f_X4_findRemnants_j42 at h
  obtain ⟨q5, hq5, h⟩ := bs h
  refine gsVN (rest := []) X Y (c_X10_put 90 rfl s1 s0 σ hq5) cb_X4_41 hl.1 rfl rfl (Nat.le_of_ble_eq_true rfl) ⟨Nat.le_of_ble_eq_true rfl, Nat.le_of_ble_eq_true rfl⟩ (dk T_X4_findRemnants 25 rfl) (fun H locs Y => ?_)
  refine lv_iinc (v := x3 + 1) (lv' := [(3, .int (x3 + 1)), (0, .ref (g.2.2 (89))), (1, .ref (g.2.2 (t1))), (2, .int (x2))]) X.1 X.2.1 (dk T_X4_findRemnants 26 rfl) hl (k := 3) rfl (icx ic_1) (Nat.le_of_ble_eq_true rfl) rfl (fun ls hl => ?_)
  refine lv_goto (tgt := 8) X.1 X.2.1 (dk T_X4_findRemnants 27 rfl) rfl ?_
  exact KB (x3 + 1) q5 (Option.some.inj h).symm _ _ _ Y (lv_sub hl [1, 2, 3, 0] rfl)
def f_X4_findRemnants_l8 (t1 : Nat) (x2 : Int32) (z : Int32 × St) : Option ((Int32 × St) ⊕ (St)) :=
  if ((z.2 89 2) * (z.2 89 3)) ≤ z.1 then some (.inr z.2) else (f_X8_onCell t1 x2 z.1 z.2).bind fun q3 => if q3 = (-1) then f_X4_findRemnants_j42 t1 x2 z.1 (-1) z.1 z.2 else f_X4_findRemnants_j42 t1 x2 z.1 (-2) z.1 z.2
set_option maxHeartbeats 4000000 in
set_option maxRecDepth 100000 in
theorem w_X4_findRemnants_l8 (X : Cx g RX4 cX4_findRemnants 5 (some .int) p s m args meth c) (t1 : Nat) (hk1 : kd t1 = 9) (x2 : Int32) (σ : St) {r : St} (KX0 : ∀ (v : St), r = v → ∀ (H : Heap) (locs : List Loc) (ls : Array Slot), Wd g s v H locs → lv_has ls 5 [(0, .ref (g.2.2 (89)))] → W p l e (rmm 3 69) s m args below meth c H locs 0 0 Q (F0 m 51 ls [])) : ∀ (n : Nat) (z : Int32 × St) {H : Heap} {locs : List Loc} {ls : Array Slot}, Wd g s z.2 H locs → lv_has ls 5 [(0, .ref (g.2.2 (89))), (1, .ref (g.2.2 (t1))), (2, .int (x2)), (3, .int (z.1))] → lp (f_X4_findRemnants_l8 t1 x2) n z = some r → W p l e (rmm 3 69) s m args below meth c H locs 0 0 Q (F0 m 8 ls []) := by
  intro n
  induction n with
  | zero => intro z H locs ls Y hl h; cases h
  | succ n ih =>
    intro z H locs ls Y hl h
    obtain ⟨w, h, hw⟩ := lps h
    have KB : ∀ (v0_ : Int32) (v1_ : St), w = .inl (v0_, v1_) → ∀ (H : Heap) (locs : List Loc) (ls : Array Slot), Wd g s v1_ H locs → lv_has ls 5 [(0, .ref (g.2.2 (89))), (1, .ref (g.2.2 (t1))), (2, .int (x2)), (3, .int (v0_))] → W p l e (rmm 3 69) s m args below meth c H locs 0 0 Q (F0 m 8 ls []) := fun v0_ v1_ e H locs ls Y hl => ih (v0_, v1_) Y hl (lpl hw e)
    have KX0 := fun (v : St) (e : w = .inr v) => KX0 v (lpr hw e)
    unfold f_X4_findRemnants_l8 at h
    refine lv_iload_n X.1 X.2.1 (dk T_X4_findRemnants 6 rfl) rfl (lv_at hl 3 rfl) ?_
    refine lv_aload_n X.1 X.2.1 (dk T_X4_findRemnants 7 rfl) rfl (lv_at hl 0 rfl) ?_
    refine gg X Y fl_X4_18 rfl rfl (dk T_X4_findRemnants 8 rfl) ?_
    refine lv_aload_n X.1 X.2.1 (dk T_X4_findRemnants 9 rfl) rfl (lv_at hl 0 rfl) ?_
    refine gg X Y fl_X4_22 rfl rfl (dk T_X4_findRemnants 10 rfl) ?_
    refine lv_imul X.1 X.2.1 (dk T_X4_findRemnants 11 rfl) ?_
    refine lv_icmp_ge (tgt := 51) X.1 X.2.1 (dk T_X4_findRemnants 12 rfl) rfl (fun c2 => ?_) (fun c2 => ?_)
    · replace h := ipos c2 h
      exact KX0 z.2 (Option.some.inj h).symm _ _ _ Y (lv_sub hl [0] rfl)
    · replace h := ineg c2 h
      refine lv_aload_n X.1 X.2.1 (dk T_X4_findRemnants 13 rfl) rfl (lv_at hl 0 rfl) ?_
      refine gg X Y fl_X4_9 rfl rfl (dk T_X4_findRemnants 14 rfl) ?_
      refine lv_iload_n X.1 X.2.1 (dk T_X4_findRemnants 15 rfl) rfl (lv_at hl 3 rfl) ?_
      refine lv_aload_n X.1 X.2.1 (dk T_X4_findRemnants 16 rfl) rfl (lv_at hl 1 rfl) ?_
      refine lv_iload_n X.1 X.2.1 (dk T_X4_findRemnants 17 rfl) rfl (lv_at hl 2 rfl) ?_
      refine lv_iload_n X.1 X.2.1 (dk T_X4_findRemnants 18 rfl) rfl (lv_at hl 3 rfl) ?_
      obtain ⟨q3, hq3, h⟩ := bs h
      refine gvI (rest := [.int (z.1), .ref (g.2.2 (90))]) X Y (c_X8_onCell t1 hk1 x2 z.1 z.2 hq3) cb_X4_35 hk1 hl.1 rfl rfl (Nat.le_of_ble_eq_true rfl) ⟨Nat.le_of_ble_eq_true rfl, Nat.le_of_ble_eq_true rfl⟩ (dk T_X4_findRemnants 19 rfl) (fun H locs Y => ?_)
      refine lv_iconst (v := (-1)) X.1 X.2.1 (dk T_X4_findRemnants 20 rfl) ic_m1 ?_
      refine lv_icmp_ne (tgt := 40) X.1 X.2.1 (dk T_X4_findRemnants 21 rfl) rfl (fun c4 => ?_) (fun c4 => ?_)
      · replace h := ineg c4 h
        refine lv_bipush (v := (-2)) X.1 X.2.1 (dk T_X4_findRemnants 24 rfl) bp_m2 ?_
        exact w_X4_findRemnants_j42 X t1 hk1 x2 z.1 (-2) z.1 z.2 KB KX0 Y (lv_sub hl [0, 1, 2, 3] rfl) h
      · replace h := ipos c4 h
        refine lv_iconst (v := (-1)) X.1 X.2.1 (dk T_X4_findRemnants 22 rfl) ic_m1 ?_
        refine lv_goto (tgt := 42) X.1 X.2.1 (dk T_X4_findRemnants 23 rfl) rfl ?_
        exact w_X4_findRemnants_j42 X t1 hk1 x2 z.1 (-1) z.1 z.2 KB KX0 Y (lv_sub hl [0, 1, 2, 3] rfl) h
def f_X4_findRemnants_j90 (t1 : Nat) (x3 : Int32) (x4 : Int32) (σ : St) : Option ((Int32 × Int32 × St) ⊕ (Int32 × St)) :=
  some (.inl (x3, x4 + 1, σ))
set_option maxHeartbeats 4000000 in
set_option maxRecDepth 100000 in
theorem w_X4_findRemnants_j90 (X : Cx g RX4 cX4_findRemnants 5 (some .int) p s m args meth c) (t1 : Nat) (hk1 : kd t1 = 9) (x3 : Int32) (x4 : Int32) (σ : St) {w : (Int32 × Int32 × St) ⊕ (Int32 × St)} (KB : ∀ (v0_ : Int32) (v1_ : Int32) (v2_ : St), w = .inl (v0_, v1_, v2_) → ∀ (H : Heap) (locs : List Loc) (ls : Array Slot), Wd g s v2_ H locs → lv_has ls 5 [(0, .ref (g.2.2 (89))), (3, .int (v0_)), (4, .int (v1_))] → W p l e (rmm 3 69) s m args below meth c H locs 0 0 Q (F0 m 56 ls [])) (KX0 : ∀ (v0_ : Int32) (v1_ : St), w = .inr (v0_, v1_) → ∀ (H : Heap) (locs : List Loc) (ls : Array Slot), Wd g s v1_ H locs → lv_has ls 5 [(3, .int (v0_))] → W p l e (rmm 3 69) s m args below meth c H locs 0 0 Q (F0 m 96 ls [])) {H : Heap} {locs : List Loc} {ls : Array Slot} (Y : Wd g s σ H locs) (hl : lv_has ls 5 [(0, .ref (g.2.2 (89))), (3, .int (x3)), (4, .int (x4))]) (h : f_X4_findRemnants_j90 t1 x3 x4 σ = some w) : W p l e (rmm 3 69) s m args below meth c H locs 0 0 Q (F0 m 90 ls []) := by
  unfold f_X4_findRemnants_j90 at h
  refine lv_iinc (v := x4 + 1) (lv' := [(4, .int (x4 + 1)), (0, .ref (g.2.2 (89))), (3, .int (x3))]) X.1 X.2.1 (dk T_X4_findRemnants 49 rfl) hl (k := 2) rfl (icx ic_1) (Nat.le_of_ble_eq_true rfl) rfl (fun ls hl => ?_)
  refine lv_goto (tgt := 56) X.1 X.2.1 (dk T_X4_findRemnants 50 rfl) rfl ?_
  exact KB x3 (x4 + 1) σ (Option.some.inj h).symm _ _ _ Y (lv_sub hl [1, 2, 0] rfl)
def f_X4_findRemnants_l56 (t1 : Nat) (z : Int32 × Int32 × St) : Option ((Int32 × Int32 × St) ⊕ (Int32 × St)) :=
  if ((z.2.2 89 2) * (z.2.2 89 3)) ≤ z.2.1 then some (.inr (z.1, z.2.2)) else (f_X4_labelAt z.2.1 z.2.2).bind fun q8 => if q8 = (-1) then (f_X4_spread z.2.1 z.1 z.2.2).bind fun q10 => f_X4_findRemnants_j90 t1 (z.1 + 1) z.2.1 q10 else f_X4_findRemnants_j90 t1 z.1 z.2.1 z.2.2
set_option maxHeartbeats 4000000 in
set_option maxRecDepth 100000 in
theorem w_X4_findRemnants_l56 (X : Cx g RX4 cX4_findRemnants 5 (some .int) p s m args meth c) (t1 : Nat) (hk1 : kd t1 = 9) (σ : St) {r : Int32 × St} (KX0 : ∀ (v0_ : Int32) (v1_ : St), r = (v0_, v1_) → ∀ (H : Heap) (locs : List Loc) (ls : Array Slot), Wd g s v1_ H locs → lv_has ls 5 [(3, .int (v0_))] → W p l e (rmm 3 69) s m args below meth c H locs 0 0 Q (F0 m 96 ls [])) : ∀ (n : Nat) (z : Int32 × Int32 × St) {H : Heap} {locs : List Loc} {ls : Array Slot}, Wd g s z.2.2 H locs → lv_has ls 5 [(0, .ref (g.2.2 (89))), (3, .int (z.1)), (4, .int (z.2.1))] → lp (f_X4_findRemnants_l56 t1) n z = some r → W p l e (rmm 3 69) s m args below meth c H locs 0 0 Q (F0 m 56 ls []) := by
  intro n
  induction n with
  | zero => intro z H locs ls Y hl h; cases h
  | succ n ih =>
    intro z H locs ls Y hl h
    obtain ⟨w, h, hw⟩ := lps h
    have KB : ∀ (v0_ : Int32) (v1_ : Int32) (v2_ : St), w = .inl (v0_, v1_, v2_) → ∀ (H : Heap) (locs : List Loc) (ls : Array Slot), Wd g s v2_ H locs → lv_has ls 5 [(0, .ref (g.2.2 (89))), (3, .int (v0_)), (4, .int (v1_))] → W p l e (rmm 3 69) s m args below meth c H locs 0 0 Q (F0 m 56 ls []) := fun v0_ v1_ v2_ e H locs ls Y hl => ih (v0_, v1_, v2_) Y hl (lpl hw e)
    have KX0 := fun (v0_ : Int32) (v1_ : St) (e : w = .inr (v0_, v1_)) => KX0 v0_ v1_ (lpr hw e)
    unfold f_X4_findRemnants_l56 at h
    refine lv_iload X.1 X.2.1 (dk T_X4_findRemnants 32 rfl) (lv_at hl 2 rfl) ?_
    refine lv_aload_n X.1 X.2.1 (dk T_X4_findRemnants 33 rfl) rfl (lv_at hl 0 rfl) ?_
    refine gg X Y fl_X4_18 rfl rfl (dk T_X4_findRemnants 34 rfl) ?_
    refine lv_aload_n X.1 X.2.1 (dk T_X4_findRemnants 35 rfl) rfl (lv_at hl 0 rfl) ?_
    refine gg X Y fl_X4_22 rfl rfl (dk T_X4_findRemnants 36 rfl) ?_
    refine lv_imul X.1 X.2.1 (dk T_X4_findRemnants 37 rfl) ?_
    refine lv_icmp_ge (tgt := 96) X.1 X.2.1 (dk T_X4_findRemnants 38 rfl) rfl (fun c7 => ?_) (fun c7 => ?_)
    · replace h := ipos c7 h
      exact KX0 z.1 z.2.2 (Option.some.inj h).symm _ _ _ Y (lv_sub hl [1] rfl)
    · replace h := ineg c7 h
      refine lv_aload_n X.1 X.2.1 (dk T_X4_findRemnants 39 rfl) rfl (lv_at hl 0 rfl) ?_
      refine lv_iload X.1 X.2.1 (dk T_X4_findRemnants 40 rfl) (lv_at hl 2 rfl) ?_
      obtain ⟨q8, hq8, h⟩ := bs h
      refine gvI (rest := []) X Y (c_X4_labelAt z.2.1 z.2.2 hq8) cb_X4_45 rfl hl.1 rfl rfl (Nat.le_of_ble_eq_true rfl) ⟨Nat.le_of_ble_eq_true rfl, Nat.le_of_ble_eq_true rfl⟩ (dk T_X4_findRemnants 41 rfl) (fun H locs Y => ?_)
      refine lv_iconst (v := (-1)) X.1 X.2.1 (dk T_X4_findRemnants 42 rfl) ic_m1 ?_
      refine lv_icmp_ne (tgt := 90) X.1 X.2.1 (dk T_X4_findRemnants 43 rfl) rfl (fun c9 => ?_) (fun c9 => ?_)
      · replace h := ineg c9 h
        exact w_X4_findRemnants_j90 X t1 hk1 z.1 z.2.1 z.2.2 KB KX0 Y (lv_sub hl [0, 1, 2] rfl) h
      · replace h := ipos c9 h
        refine lv_aload_n X.1 X.2.1 (dk T_X4_findRemnants 44 rfl) rfl (lv_at hl 0 rfl) ?_
        refine lv_iload X.1 X.2.1 (dk T_X4_findRemnants 45 rfl) (lv_at hl 2 rfl) ?_
        refine lv_iload_n X.1 X.2.1 (dk T_X4_findRemnants 46 rfl) rfl (lv_at hl 1 rfl) ?_
        obtain ⟨q10, hq10, h⟩ := bs h
        refine gvV (rest := []) X Y (c_X4_spread z.2.1 z.1 z.2.2 hq10) cb_X4_49 rfl hl.1 rfl rfl (Nat.le_of_ble_eq_true rfl) ⟨Nat.le_of_ble_eq_true rfl, Nat.le_of_ble_eq_true rfl⟩ (dk T_X4_findRemnants 47 rfl) (fun H locs Y => ?_)
        refine lv_iinc (v := z.1 + 1) (lv' := [(3, .int (z.1 + 1)), (0, .ref (g.2.2 (89))), (4, .int (z.2.1))]) X.1 X.2.1 (dk T_X4_findRemnants 48 rfl) hl (k := 1) rfl (icx ic_1) (Nat.le_of_ble_eq_true rfl) rfl (fun ls hl => ?_)
        exact w_X4_findRemnants_j90 X t1 hk1 (z.1 + 1) z.2.1 q10 KB KX0 Y (lv_sub hl [1, 0, 2] rfl) h
def f_X4_findRemnants_0 (t1 : Nat) (x2 : Int32) (σ : St) : Option (Int32 × St) :=
  (f_X4_begin t1 x2 σ).bind fun q1 => (lp (f_X4_findRemnants_l8 t1 x2) FU (0, q1)).bind fun q6 => (lp (f_X4_findRemnants_l56 t1) FU (0, 0, q6)).bind fun q11 => some (q11.1, q11.2)
set_option maxHeartbeats 4000000 in
set_option maxRecDepth 100000 in
theorem w_X4_findRemnants_0 (X : Cx g RX4 cX4_findRemnants 5 (some .int) p s m args meth c) (t1 : Nat) (hk1 : kd t1 = 9) (x2 : Int32) (σ : St) {w : Int32 × St} (KR : ∀ (H : Heap) (locs : List Loc) (ls : Array Slot) (pc : Nat), Wd g s w.2 H locs → decode cX4_findRemnants pc = .ok (.ireturn, 1) → W p l e (rmm 3 69) s m args below meth c H locs 0 0 Q (F0 m pc ls [.int (w.1)])) {H : Heap} {locs : List Loc} {ls : Array Slot} (Y : Wd g s σ H locs) (hl : lv_has ls 5 [(0, .ref (g.2.2 (89))), (1, .ref (g.2.2 (t1))), (2, .int (x2))]) (h : f_X4_findRemnants_0 t1 x2 σ = some w) : W p l e (rmm 3 69) s m args below meth c H locs 0 0 Q (F0 m 0 ls []) := by
  unfold f_X4_findRemnants_0 at h
  refine lv_aload_n X.1 X.2.1 (dk T_X4_findRemnants 0 rfl) rfl (lv_at hl 0 rfl) ?_
  refine lv_aload_n X.1 X.2.1 (dk T_X4_findRemnants 1 rfl) rfl (lv_at hl 1 rfl) ?_
  refine lv_iload_n X.1 X.2.1 (dk T_X4_findRemnants 2 rfl) rfl (lv_at hl 2 rfl) ?_
  obtain ⟨q1, hq1, h⟩ := bs h
  refine gvV (rest := []) X Y (c_X4_begin t1 hk1 x2 σ hq1) cb_X4_31 rfl hl.1 rfl rfl (Nat.le_of_ble_eq_true rfl) ⟨Nat.le_of_ble_eq_true rfl, Nat.le_of_ble_eq_true rfl⟩ (dk T_X4_findRemnants 3 rfl) (fun H locs Y => ?_)
  refine lv_iconst (v := 0) X.1 X.2.1 (dk T_X4_findRemnants 4 rfl) ic_0 ?_
  refine lv_istore_n (lv' := [(3, .int (0)), (0, .ref (g.2.2 (89))), (1, .ref (g.2.2 (t1))), (2, .int (x2))]) X.1 X.2.1 (dk T_X4_findRemnants 5 rfl) rfl hl (Nat.le_of_ble_eq_true rfl) rfl (fun ls hl => ?_)
  obtain ⟨q6, hq6, h⟩ := bs h
  refine w_X4_findRemnants_l8 X t1 hk1 x2 σ (fun v e H locs ls Y hl => ?_) FU (0, q1) Y (lv_sub hl [1, 2, 3, 0] rfl) hq6
  · obtain rfl := e
    refine lv_iconst (v := 0) X.1 X.2.1 (dk T_X4_findRemnants 28 rfl) ic_0 ?_
    refine lv_istore_n (lv' := [(3, .int (0)), (0, .ref (g.2.2 (89)))]) X.1 X.2.1 (dk T_X4_findRemnants 29 rfl) rfl hl (Nat.le_of_ble_eq_true rfl) rfl (fun ls hl => ?_)
    refine lv_iconst (v := 0) X.1 X.2.1 (dk T_X4_findRemnants 30 rfl) ic_0 ?_
    refine lv_istore (lv' := [(4, .int (0)), (3, .int (0)), (0, .ref (g.2.2 (89)))]) X.1 X.2.1 (dk T_X4_findRemnants 31 rfl) hl (Nat.le_of_ble_eq_true rfl) rfl (fun ls hl => ?_)
    obtain ⟨q11, hq11, h⟩ := bs h
    refine w_X4_findRemnants_l56 X t1 hk1 σ (fun v0_ v1_ e H locs ls Y hl => ?_) FU (0, 0, q6) Y (lv_sub hl [2, 1, 0] rfl) hq11
    · obtain ⟨rfl, rfl⟩ : v0_ = q11.1 ∧ v1_ = q11.2 := ⟨by rw [e], by rw [e]⟩
      refine lv_iload_n X.1 X.2.1 (dk T_X4_findRemnants 51 rfl) rfl (lv_at hl 0 rfl) ?_
      obtain rfl := Option.some.inj h
      exact KR _ _ _ _ Y (dk T_X4_findRemnants 52 rfl)
def f_X4_findRemnants (t1 : Nat) (x2 : Int32) (σ : St) : Option (Int32 × St) := f_X4_findRemnants_0 t1 x2 σ
set_option maxHeartbeats 4000000 in
set_option maxRecDepth 100000 in
theorem c_X4_findRemnants {l : Launch} {g : Geo} (t1 : Nat) (hk1 : kd t1 = 9) (x2 : Int32) (σ : St) {w : Int32 × St} (h : f_X4_findRemnants t1 x2 σ = some w) : CtI l yX4_findRemnants cX4_findRemnants 5 (some .int) (rmm 3 69) g [.ref (g.2.2 (89)), .ref (g.2.2 (t1)), .int (x2)] σ w.1 w.2 := enI .int (by decide) rfl rfl (Nat.le_of_ble_eq_true rfl) (fun p e s m args below meth c Q X Y ls hl KR => w_X4_findRemnants_0 X t1 hk1 x2 σ KR Y hl h)
def I_X4_findHoles : List (Nat × Instr × Nat) := [(0, .aload_n 0, 1), (1, .aload_n 1, 1), (2, .iload_n 2, 1), (3, .invokevirtual 31, 3), (6, .iconst 0, 1), (7, .istore 4, 2), (9, .iload 4, 2), (11, .aload_n 0, 1), (12, .getfield 18, 3), (15, .aload_n 0, 1), (16, .getfield 22, 3), (19, .imul, 1), (20, .if_icmp .ge 35, 3), (23, .aload_n 0, 1), (24, .getfield 9, 3), (27, .iload 4, 2), (29, .aload_n 1, 1), (30, .iload_n 2, 1), (31, .iload 4, 2), (33, .invokevirtual 35, 3), (36, .iload_n 3, 1), (37, .if_icmp .ne 8, 3), (40, .bipush (-2), 2), (42, .goto 4, 3), (45, .iconst (-1), 1), (46, .invokestatic 41, 3), (49, .iinc 4 1, 3), (52, .goto (-43), 3), (55, .iconst 0, 1), (56, .istore 4, 2), (58, .iload 4, 2), (60, .aload_n 0, 1), (61, .getfield 22, 3), (64, .if_icmp .ge 40, 3), (67, .aload_n 0, 1), (68, .aload_n 0, 1), (69, .getfield 18, 3), (72, .iload 4, 2), (74, .imul, 1), (75, .iconst 0, 1), (76, .invokevirtual 49, 3), (79, .aload_n 0, 1), (80, .aload_n 0, 1), (81, .getfield 18, 3), (84, .iload 4, 2), (86, .imul, 1), (87, .aload_n 0, 1), (88, .getfield 18, 3), (91, .iadd, 1), (92, .iconst 1, 1), (93, .isub, 1), (94, .iconst 0, 1), (95, .invokevirtual 49, 3), (98, .iinc 4 1, 3), (101, .goto (-43), 3), (104, .iconst 0, 1), (105, .istore 4, 2), (107, .iload 4, 2), (109, .aload_n 0, 1), (110, .getfield 18, 3), (113, .if_icmp .ge 35, 3), (116, .aload_n 0, 1), (117, .iload 4, 2), (119, .iconst 0, 1), (120, .invokevirtual 49, 3), (123, .aload_n 0, 1), (124, .aload_n 0, 1), (125, .getfield 18, 3), (128, .aload_n 0, 1), (129, .getfield 22, 3), (132, .iconst 1, 1), (133, .isub, 1), (134, .imul, 1), (135, .iload 4, 2), (137, .iadd, 1), (138, .iconst 0, 1), (139, .invokevirtual 49, 3), (142, .iinc 4 1, 3), (145, .goto (-38), 3), (148, .return_, 1)]
set_option maxRecDepth 100000 in
theorem T_X4_findHoles : ∀ q ∈ I_X4_findHoles, decode cX4_findHoles q.1 = .ok (q.2.1, q.2.2) := by decide +kernel
def f_X4_findHoles_j46 (t1 : Nat) (x2 : Int32) (x3 : Int32) (x4 : Int32) (s0 : Int32) (s1 : Int32) (σ : St) : Option ((Int32 × St) ⊕ (St)) :=
  (f_X10_put 90 s1 s0 σ).bind fun q5 => some (.inl (x4 + 1, q5))
set_option maxHeartbeats 4000000 in
set_option maxRecDepth 100000 in
theorem w_X4_findHoles_j46 (X : Cx g RX4 cX4_findHoles 5 none p s m args meth c) (t1 : Nat) (hk1 : kd t1 = 9) (x2 : Int32) (x3 : Int32) (x4 : Int32) (s0 : Int32) (s1 : Int32) (σ : St) {w : (Int32 × St) ⊕ (St)} (KB : ∀ (v0_ : Int32) (v1_ : St), w = .inl (v0_, v1_) → ∀ (H : Heap) (locs : List Loc) (ls : Array Slot), Wd g s v1_ H locs → lv_has ls 5 [(0, .ref (g.2.2 (89))), (1, .ref (g.2.2 (t1))), (2, .int (x2)), (3, .int (x3)), (4, .int (v0_))] → W p l e (rmm 3 69) s m args below meth c H locs 0 0 Q (F0 m 9 ls [])) (KX0 : ∀ (v : St), w = .inr v → ∀ (H : Heap) (locs : List Loc) (ls : Array Slot), Wd g s v H locs → lv_has ls 5 [(0, .ref (g.2.2 (89)))] → W p l e (rmm 3 69) s m args below meth c H locs 0 0 Q (F0 m 55 ls [])) {H : Heap} {locs : List Loc} {ls : Array Slot} (Y : Wd g s σ H locs) (hl : lv_has ls 5 [(0, .ref (g.2.2 (89))), (1, .ref (g.2.2 (t1))), (2, .int (x2)), (3, .int (x3)), (4, .int (x4))]) (h : f_X4_findHoles_j46 t1 x2 x3 x4 s0 s1 σ = some w) : W p l e (rmm 3 69) s m args below meth c H locs 0 0 Q (F0 m 46 ls [.int (s0), .int (s1), .ref (g.2.2 (90))]) := by
  unfold f_X4_findHoles_j46 at h
  obtain ⟨q5, hq5, h⟩ := bs h
  refine gsVN (rest := []) X Y (c_X10_put 90 rfl s1 s0 σ hq5) cb_X4_41 hl.1 rfl rfl (Nat.le_of_ble_eq_true rfl) ⟨Nat.le_of_ble_eq_true rfl, Nat.le_of_ble_eq_true rfl⟩ (dk T_X4_findHoles 25 rfl) (fun H locs Y => ?_)
  refine lv_iinc (v := x4 + 1) (lv' := [(4, .int (x4 + 1)), (0, .ref (g.2.2 (89))), (1, .ref (g.2.2 (t1))), (2, .int (x2)), (3, .int (x3))]) X.1 X.2.1 (dk T_X4_findHoles 26 rfl) hl (k := 4) rfl (icx ic_1) (Nat.le_of_ble_eq_true rfl) rfl (fun ls hl => ?_)
  refine lv_goto (tgt := 9) X.1 X.2.1 (dk T_X4_findHoles 27 rfl) rfl ?_
  exact KB (x4 + 1) q5 (Option.some.inj h).symm _ _ _ Y (lv_sub hl [1, 2, 3, 4, 0] rfl)
def f_X4_findHoles_l9 (t1 : Nat) (x2 : Int32) (x3 : Int32) (z : Int32 × St) : Option ((Int32 × St) ⊕ (St)) :=
  if ((z.2 89 2) * (z.2 89 3)) ≤ z.1 then some (.inr z.2) else (f_X8_onCell t1 x2 z.1 z.2).bind fun q3 => if q3 = x3 then f_X4_findHoles_j46 t1 x2 x3 z.1 (-2) z.1 z.2 else f_X4_findHoles_j46 t1 x2 x3 z.1 (-1) z.1 z.2
set_option maxHeartbeats 4000000 in
set_option maxRecDepth 100000 in
theorem w_X4_findHoles_l9 (X : Cx g RX4 cX4_findHoles 5 none p s m args meth c) (t1 : Nat) (hk1 : kd t1 = 9) (x2 : Int32) (x3 : Int32) (σ : St) {r : St} (KX0 : ∀ (v : St), r = v → ∀ (H : Heap) (locs : List Loc) (ls : Array Slot), Wd g s v H locs → lv_has ls 5 [(0, .ref (g.2.2 (89)))] → W p l e (rmm 3 69) s m args below meth c H locs 0 0 Q (F0 m 55 ls [])) : ∀ (n : Nat) (z : Int32 × St) {H : Heap} {locs : List Loc} {ls : Array Slot}, Wd g s z.2 H locs → lv_has ls 5 [(0, .ref (g.2.2 (89))), (1, .ref (g.2.2 (t1))), (2, .int (x2)), (3, .int (x3)), (4, .int (z.1))] → lp (f_X4_findHoles_l9 t1 x2 x3) n z = some r → W p l e (rmm 3 69) s m args below meth c H locs 0 0 Q (F0 m 9 ls []) := by
  intro n
  induction n with
  | zero => intro z H locs ls Y hl h; cases h
  | succ n ih =>
    intro z H locs ls Y hl h
    obtain ⟨w, h, hw⟩ := lps h
    have KB : ∀ (v0_ : Int32) (v1_ : St), w = .inl (v0_, v1_) → ∀ (H : Heap) (locs : List Loc) (ls : Array Slot), Wd g s v1_ H locs → lv_has ls 5 [(0, .ref (g.2.2 (89))), (1, .ref (g.2.2 (t1))), (2, .int (x2)), (3, .int (x3)), (4, .int (v0_))] → W p l e (rmm 3 69) s m args below meth c H locs 0 0 Q (F0 m 9 ls []) := fun v0_ v1_ e H locs ls Y hl => ih (v0_, v1_) Y hl (lpl hw e)
    have KX0 := fun (v : St) (e : w = .inr v) => KX0 v (lpr hw e)
    unfold f_X4_findHoles_l9 at h
    refine lv_iload X.1 X.2.1 (dk T_X4_findHoles 6 rfl) (lv_at hl 4 rfl) ?_
    refine lv_aload_n X.1 X.2.1 (dk T_X4_findHoles 7 rfl) rfl (lv_at hl 0 rfl) ?_
    refine gg X Y fl_X4_18 rfl rfl (dk T_X4_findHoles 8 rfl) ?_
    refine lv_aload_n X.1 X.2.1 (dk T_X4_findHoles 9 rfl) rfl (lv_at hl 0 rfl) ?_
    refine gg X Y fl_X4_22 rfl rfl (dk T_X4_findHoles 10 rfl) ?_
    refine lv_imul X.1 X.2.1 (dk T_X4_findHoles 11 rfl) ?_
    refine lv_icmp_ge (tgt := 55) X.1 X.2.1 (dk T_X4_findHoles 12 rfl) rfl (fun c2 => ?_) (fun c2 => ?_)
    · replace h := ipos c2 h
      exact KX0 z.2 (Option.some.inj h).symm _ _ _ Y (lv_sub hl [0] rfl)
    · replace h := ineg c2 h
      refine lv_aload_n X.1 X.2.1 (dk T_X4_findHoles 13 rfl) rfl (lv_at hl 0 rfl) ?_
      refine gg X Y fl_X4_9 rfl rfl (dk T_X4_findHoles 14 rfl) ?_
      refine lv_iload X.1 X.2.1 (dk T_X4_findHoles 15 rfl) (lv_at hl 4 rfl) ?_
      refine lv_aload_n X.1 X.2.1 (dk T_X4_findHoles 16 rfl) rfl (lv_at hl 1 rfl) ?_
      refine lv_iload_n X.1 X.2.1 (dk T_X4_findHoles 17 rfl) rfl (lv_at hl 2 rfl) ?_
      refine lv_iload X.1 X.2.1 (dk T_X4_findHoles 18 rfl) (lv_at hl 4 rfl) ?_
      obtain ⟨q3, hq3, h⟩ := bs h
      refine gvI (rest := [.int (z.1), .ref (g.2.2 (90))]) X Y (c_X8_onCell t1 hk1 x2 z.1 z.2 hq3) cb_X4_35 hk1 hl.1 rfl rfl (Nat.le_of_ble_eq_true rfl) ⟨Nat.le_of_ble_eq_true rfl, Nat.le_of_ble_eq_true rfl⟩ (dk T_X4_findHoles 19 rfl) (fun H locs Y => ?_)
      refine lv_iload_n X.1 X.2.1 (dk T_X4_findHoles 20 rfl) rfl (lv_at hl 3 rfl) ?_
      refine lv_icmp_ne (tgt := 45) X.1 X.2.1 (dk T_X4_findHoles 21 rfl) rfl (fun c4 => ?_) (fun c4 => ?_)
      · replace h := ineg c4 h
        refine lv_iconst (v := (-1)) X.1 X.2.1 (dk T_X4_findHoles 24 rfl) ic_m1 ?_
        exact w_X4_findHoles_j46 X t1 hk1 x2 x3 z.1 (-1) z.1 z.2 KB KX0 Y (lv_sub hl [0, 1, 2, 3, 4] rfl) h
      · replace h := ipos c4 h
        refine lv_bipush (v := (-2)) X.1 X.2.1 (dk T_X4_findHoles 22 rfl) bp_m2 ?_
        refine lv_goto (tgt := 46) X.1 X.2.1 (dk T_X4_findHoles 23 rfl) rfl ?_
        exact w_X4_findHoles_j46 X t1 hk1 x2 x3 z.1 (-2) z.1 z.2 KB KX0 Y (lv_sub hl [0, 1, 2, 3, 4] rfl) h
def f_X4_findHoles_l58 (t1 : Nat) (z : Int32 × St) : Option ((Int32 × St) ⊕ (St)) :=
  if (z.2 89 3) ≤ z.1 then some (.inr z.2) else (f_X4_spread ((z.2 89 2) * z.1) 0 z.2).bind fun q8 => (f_X4_spread ((((q8 89 2) * z.1) + (q8 89 2)) - 1) 0 q8).bind fun q9 => some (.inl (z.1 + 1, q9))
set_option maxHeartbeats 4000000 in
set_option maxRecDepth 100000 in
theorem w_X4_findHoles_l58 (X : Cx g RX4 cX4_findHoles 5 none p s m args meth c) (t1 : Nat) (hk1 : kd t1 = 9) (σ : St) {r : St} (KX0 : ∀ (v : St), r = v → ∀ (H : Heap) (locs : List Loc) (ls : Array Slot), Wd g s v H locs → lv_has ls 5 [(0, .ref (g.2.2 (89)))] → W p l e (rmm 3 69) s m args below meth c H locs 0 0 Q (F0 m 104 ls [])) : ∀ (n : Nat) (z : Int32 × St) {H : Heap} {locs : List Loc} {ls : Array Slot}, Wd g s z.2 H locs → lv_has ls 5 [(0, .ref (g.2.2 (89))), (4, .int (z.1))] → lp (f_X4_findHoles_l58 t1) n z = some r → W p l e (rmm 3 69) s m args below meth c H locs 0 0 Q (F0 m 58 ls []) := by
  intro n
  induction n with
  | zero => intro z H locs ls Y hl h; cases h
  | succ n ih =>
    intro z H locs ls Y hl h
    obtain ⟨w, h, hw⟩ := lps h
    have KB : ∀ (v0_ : Int32) (v1_ : St), w = .inl (v0_, v1_) → ∀ (H : Heap) (locs : List Loc) (ls : Array Slot), Wd g s v1_ H locs → lv_has ls 5 [(0, .ref (g.2.2 (89))), (4, .int (v0_))] → W p l e (rmm 3 69) s m args below meth c H locs 0 0 Q (F0 m 58 ls []) := fun v0_ v1_ e H locs ls Y hl => ih (v0_, v1_) Y hl (lpl hw e)
    have KX0 := fun (v : St) (e : w = .inr v) => KX0 v (lpr hw e)
    unfold f_X4_findHoles_l58 at h
    refine lv_iload X.1 X.2.1 (dk T_X4_findHoles 30 rfl) (lv_at hl 1 rfl) ?_
    refine lv_aload_n X.1 X.2.1 (dk T_X4_findHoles 31 rfl) rfl (lv_at hl 0 rfl) ?_
    refine gg X Y fl_X4_22 rfl rfl (dk T_X4_findHoles 32 rfl) ?_
    refine lv_icmp_ge (tgt := 104) X.1 X.2.1 (dk T_X4_findHoles 33 rfl) rfl (fun c7 => ?_) (fun c7 => ?_)
    · replace h := ipos c7 h
      exact KX0 z.2 (Option.some.inj h).symm _ _ _ Y (lv_sub hl [0] rfl)
    · replace h := ineg c7 h
      refine lv_aload_n X.1 X.2.1 (dk T_X4_findHoles 34 rfl) rfl (lv_at hl 0 rfl) ?_
      refine lv_aload_n X.1 X.2.1 (dk T_X4_findHoles 35 rfl) rfl (lv_at hl 0 rfl) ?_
      refine gg X Y fl_X4_18 rfl rfl (dk T_X4_findHoles 36 rfl) ?_
      refine lv_iload X.1 X.2.1 (dk T_X4_findHoles 37 rfl) (lv_at hl 1 rfl) ?_
      refine lv_imul X.1 X.2.1 (dk T_X4_findHoles 38 rfl) ?_
      refine lv_iconst (v := 0) X.1 X.2.1 (dk T_X4_findHoles 39 rfl) ic_0 ?_
      obtain ⟨q8, hq8, h⟩ := bs h
      refine gvV (rest := []) X Y (c_X4_spread ((z.2 89 2) * z.1) 0 z.2 hq8) cb_X4_49 rfl hl.1 rfl rfl (Nat.le_of_ble_eq_true rfl) ⟨Nat.le_of_ble_eq_true rfl, Nat.le_of_ble_eq_true rfl⟩ (dk T_X4_findHoles 40 rfl) (fun H locs Y => ?_)
      refine lv_aload_n X.1 X.2.1 (dk T_X4_findHoles 41 rfl) rfl (lv_at hl 0 rfl) ?_
      refine lv_aload_n X.1 X.2.1 (dk T_X4_findHoles 42 rfl) rfl (lv_at hl 0 rfl) ?_
      refine gg X Y fl_X4_18 rfl rfl (dk T_X4_findHoles 43 rfl) ?_
      refine lv_iload X.1 X.2.1 (dk T_X4_findHoles 44 rfl) (lv_at hl 1 rfl) ?_
      refine lv_imul X.1 X.2.1 (dk T_X4_findHoles 45 rfl) ?_
      refine lv_aload_n X.1 X.2.1 (dk T_X4_findHoles 46 rfl) rfl (lv_at hl 0 rfl) ?_
      refine gg X Y fl_X4_18 rfl rfl (dk T_X4_findHoles 47 rfl) ?_
      refine lv_iadd X.1 X.2.1 (dk T_X4_findHoles 48 rfl) ?_
      refine lv_iconst (v := 1) X.1 X.2.1 (dk T_X4_findHoles 49 rfl) ic_1 ?_
      refine lv_isub X.1 X.2.1 (dk T_X4_findHoles 50 rfl) ?_
      refine lv_iconst (v := 0) X.1 X.2.1 (dk T_X4_findHoles 51 rfl) ic_0 ?_
      obtain ⟨q9, hq9, h⟩ := bs h
      refine gvV (rest := []) X Y (c_X4_spread ((((q8 89 2) * z.1) + (q8 89 2)) - 1) 0 q8 hq9) cb_X4_49 rfl hl.1 rfl rfl (Nat.le_of_ble_eq_true rfl) ⟨Nat.le_of_ble_eq_true rfl, Nat.le_of_ble_eq_true rfl⟩ (dk T_X4_findHoles 52 rfl) (fun H locs Y => ?_)
      refine lv_iinc (v := z.1 + 1) (lv' := [(4, .int (z.1 + 1)), (0, .ref (g.2.2 (89)))]) X.1 X.2.1 (dk T_X4_findHoles 53 rfl) hl (k := 1) rfl (icx ic_1) (Nat.le_of_ble_eq_true rfl) rfl (fun ls hl => ?_)
      refine lv_goto (tgt := 58) X.1 X.2.1 (dk T_X4_findHoles 54 rfl) rfl ?_
      exact KB (z.1 + 1) q9 (Option.some.inj h).symm _ _ _ Y (lv_sub hl [1, 0] rfl)
def f_X4_findHoles_l107 (t1 : Nat) (z : Int32 × St) : Option ((Int32 × St) ⊕ (St)) :=
  if (z.2 89 2) ≤ z.1 then some (.inr z.2) else (f_X4_spread z.1 0 z.2).bind fun q12 => (f_X4_spread (((q12 89 2) * ((q12 89 3) - 1)) + z.1) 0 q12).bind fun q13 => some (.inl (z.1 + 1, q13))
set_option maxHeartbeats 4000000 in
set_option maxRecDepth 100000 in
theorem w_X4_findHoles_l107 (X : Cx g RX4 cX4_findHoles 5 none p s m args meth c) (t1 : Nat) (hk1 : kd t1 = 9) (σ : St) {r : St} (KX0 : ∀ (v : St), r = v → ∀ (H : Heap) (locs : List Loc) (ls : Array Slot), Wd g s v H locs → lv_has ls 5 [] → W p l e (rmm 3 69) s m args below meth c H locs 0 0 Q (F0 m 148 ls [])) : ∀ (n : Nat) (z : Int32 × St) {H : Heap} {locs : List Loc} {ls : Array Slot}, Wd g s z.2 H locs → lv_has ls 5 [(0, .ref (g.2.2 (89))), (4, .int (z.1))] → lp (f_X4_findHoles_l107 t1) n z = some r → W p l e (rmm 3 69) s m args below meth c H locs 0 0 Q (F0 m 107 ls []) := by
  intro n
  induction n with
  | zero => intro z H locs ls Y hl h; cases h
  | succ n ih =>
    intro z H locs ls Y hl h
    obtain ⟨w, h, hw⟩ := lps h
    have KB : ∀ (v0_ : Int32) (v1_ : St), w = .inl (v0_, v1_) → ∀ (H : Heap) (locs : List Loc) (ls : Array Slot), Wd g s v1_ H locs → lv_has ls 5 [(0, .ref (g.2.2 (89))), (4, .int (v0_))] → W p l e (rmm 3 69) s m args below meth c H locs 0 0 Q (F0 m 107 ls []) := fun v0_ v1_ e H locs ls Y hl => ih (v0_, v1_) Y hl (lpl hw e)
    have KX0 := fun (v : St) (e : w = .inr v) => KX0 v (lpr hw e)
    unfold f_X4_findHoles_l107 at h
    refine lv_iload X.1 X.2.1 (dk T_X4_findHoles 57 rfl) (lv_at hl 1 rfl) ?_
    refine lv_aload_n X.1 X.2.1 (dk T_X4_findHoles 58 rfl) rfl (lv_at hl 0 rfl) ?_
    refine gg X Y fl_X4_18 rfl rfl (dk T_X4_findHoles 59 rfl) ?_
    refine lv_icmp_ge (tgt := 148) X.1 X.2.1 (dk T_X4_findHoles 60 rfl) rfl (fun c11 => ?_) (fun c11 => ?_)
    · replace h := ipos c11 h
      exact KX0 z.2 (Option.some.inj h).symm _ _ _ Y (lv_sub hl [] rfl)
    · replace h := ineg c11 h
      refine lv_aload_n X.1 X.2.1 (dk T_X4_findHoles 61 rfl) rfl (lv_at hl 0 rfl) ?_
      refine lv_iload X.1 X.2.1 (dk T_X4_findHoles 62 rfl) (lv_at hl 1 rfl) ?_
      refine lv_iconst (v := 0) X.1 X.2.1 (dk T_X4_findHoles 63 rfl) ic_0 ?_
      obtain ⟨q12, hq12, h⟩ := bs h
      refine gvV (rest := []) X Y (c_X4_spread z.1 0 z.2 hq12) cb_X4_49 rfl hl.1 rfl rfl (Nat.le_of_ble_eq_true rfl) ⟨Nat.le_of_ble_eq_true rfl, Nat.le_of_ble_eq_true rfl⟩ (dk T_X4_findHoles 64 rfl) (fun H locs Y => ?_)
      refine lv_aload_n X.1 X.2.1 (dk T_X4_findHoles 65 rfl) rfl (lv_at hl 0 rfl) ?_
      refine lv_aload_n X.1 X.2.1 (dk T_X4_findHoles 66 rfl) rfl (lv_at hl 0 rfl) ?_
      refine gg X Y fl_X4_18 rfl rfl (dk T_X4_findHoles 67 rfl) ?_
      refine lv_aload_n X.1 X.2.1 (dk T_X4_findHoles 68 rfl) rfl (lv_at hl 0 rfl) ?_
      refine gg X Y fl_X4_22 rfl rfl (dk T_X4_findHoles 69 rfl) ?_
      refine lv_iconst (v := 1) X.1 X.2.1 (dk T_X4_findHoles 70 rfl) ic_1 ?_
      refine lv_isub X.1 X.2.1 (dk T_X4_findHoles 71 rfl) ?_
      refine lv_imul X.1 X.2.1 (dk T_X4_findHoles 72 rfl) ?_
      refine lv_iload X.1 X.2.1 (dk T_X4_findHoles 73 rfl) (lv_at hl 1 rfl) ?_
      refine lv_iadd X.1 X.2.1 (dk T_X4_findHoles 74 rfl) ?_
      refine lv_iconst (v := 0) X.1 X.2.1 (dk T_X4_findHoles 75 rfl) ic_0 ?_
      obtain ⟨q13, hq13, h⟩ := bs h
      refine gvV (rest := []) X Y (c_X4_spread (((q12 89 2) * ((q12 89 3) - 1)) + z.1) 0 q12 hq13) cb_X4_49 rfl hl.1 rfl rfl (Nat.le_of_ble_eq_true rfl) ⟨Nat.le_of_ble_eq_true rfl, Nat.le_of_ble_eq_true rfl⟩ (dk T_X4_findHoles 76 rfl) (fun H locs Y => ?_)
      refine lv_iinc (v := z.1 + 1) (lv' := [(4, .int (z.1 + 1)), (0, .ref (g.2.2 (89)))]) X.1 X.2.1 (dk T_X4_findHoles 77 rfl) hl (k := 1) rfl (icx ic_1) (Nat.le_of_ble_eq_true rfl) rfl (fun ls hl => ?_)
      refine lv_goto (tgt := 107) X.1 X.2.1 (dk T_X4_findHoles 78 rfl) rfl ?_
      exact KB (z.1 + 1) q13 (Option.some.inj h).symm _ _ _ Y (lv_sub hl [1, 0] rfl)
def f_X4_findHoles_0 (t1 : Nat) (x2 : Int32) (x3 : Int32) (σ : St) : Option (St) :=
  (f_X4_begin t1 x2 σ).bind fun q1 => (lp (f_X4_findHoles_l9 t1 x2 x3) FU (0, q1)).bind fun q6 => (lp (f_X4_findHoles_l58 t1) FU (0, q6)).bind fun q10 => (lp (f_X4_findHoles_l107 t1) FU (0, q10)).bind fun q14 => some q14
set_option maxHeartbeats 4000000 in
set_option maxRecDepth 100000 in
theorem w_X4_findHoles_0 (X : Cx g RX4 cX4_findHoles 5 none p s m args meth c) (t1 : Nat) (hk1 : kd t1 = 9) (x2 : Int32) (x3 : Int32) (σ : St) {w : St} (KR : ∀ (H : Heap) (locs : List Loc) (ls : Array Slot) (pc : Nat), Wd g s w H locs → decode cX4_findHoles pc = .ok (.return_, 1) → W p l e (rmm 3 69) s m args below meth c H locs 0 0 Q (F0 m pc ls [])) {H : Heap} {locs : List Loc} {ls : Array Slot} (Y : Wd g s σ H locs) (hl : lv_has ls 5 [(0, .ref (g.2.2 (89))), (1, .ref (g.2.2 (t1))), (2, .int (x2)), (3, .int (x3))]) (h : f_X4_findHoles_0 t1 x2 x3 σ = some w) : W p l e (rmm 3 69) s m args below meth c H locs 0 0 Q (F0 m 0 ls []) := by
  unfold f_X4_findHoles_0 at h
  refine lv_aload_n X.1 X.2.1 (dk T_X4_findHoles 0 rfl) rfl (lv_at hl 0 rfl) ?_
  refine lv_aload_n X.1 X.2.1 (dk T_X4_findHoles 1 rfl) rfl (lv_at hl 1 rfl) ?_
  refine lv_iload_n X.1 X.2.1 (dk T_X4_findHoles 2 rfl) rfl (lv_at hl 2 rfl) ?_
  obtain ⟨q1, hq1, h⟩ := bs h
  refine gvV (rest := []) X Y (c_X4_begin t1 hk1 x2 σ hq1) cb_X4_31 rfl hl.1 rfl rfl (Nat.le_of_ble_eq_true rfl) ⟨Nat.le_of_ble_eq_true rfl, Nat.le_of_ble_eq_true rfl⟩ (dk T_X4_findHoles 3 rfl) (fun H locs Y => ?_)
  refine lv_iconst (v := 0) X.1 X.2.1 (dk T_X4_findHoles 4 rfl) ic_0 ?_
  refine lv_istore (lv' := [(4, .int (0)), (0, .ref (g.2.2 (89))), (1, .ref (g.2.2 (t1))), (2, .int (x2)), (3, .int (x3))]) X.1 X.2.1 (dk T_X4_findHoles 5 rfl) hl (Nat.le_of_ble_eq_true rfl) rfl (fun ls hl => ?_)
  obtain ⟨q6, hq6, h⟩ := bs h
  refine w_X4_findHoles_l9 X t1 hk1 x2 x3 σ (fun v e H locs ls Y hl => ?_) FU (0, q1) Y (lv_sub hl [1, 2, 3, 4, 0] rfl) hq6
  · obtain rfl := e
    refine lv_iconst (v := 0) X.1 X.2.1 (dk T_X4_findHoles 28 rfl) ic_0 ?_
    refine lv_istore (lv' := [(4, .int (0)), (0, .ref (g.2.2 (89)))]) X.1 X.2.1 (dk T_X4_findHoles 29 rfl) hl (Nat.le_of_ble_eq_true rfl) rfl (fun ls hl => ?_)
    obtain ⟨q10, hq10, h⟩ := bs h
    refine w_X4_findHoles_l58 X t1 hk1 σ (fun v e H locs ls Y hl => ?_) FU (0, q6) Y (lv_sub hl [1, 0] rfl) hq10
    · obtain rfl := e
      refine lv_iconst (v := 0) X.1 X.2.1 (dk T_X4_findHoles 55 rfl) ic_0 ?_
      refine lv_istore (lv' := [(4, .int (0)), (0, .ref (g.2.2 (89)))]) X.1 X.2.1 (dk T_X4_findHoles 56 rfl) hl (Nat.le_of_ble_eq_true rfl) rfl (fun ls hl => ?_)
      obtain ⟨q14, hq14, h⟩ := bs h
      refine w_X4_findHoles_l107 X t1 hk1 σ (fun v e H locs ls Y hl => ?_) FU (0, q10) Y (lv_sub hl [1, 0] rfl) hq14
      · obtain rfl := e
        obtain rfl := Option.some.inj h
        exact KR _ _ _ _ Y (dk T_X4_findHoles 79 rfl)
def f_X4_findHoles (t1 : Nat) (x2 : Int32) (x3 : Int32) (σ : St) : Option (St) := f_X4_findHoles_0 t1 x2 x3 σ
set_option maxHeartbeats 4000000 in
set_option maxRecDepth 100000 in
theorem c_X4_findHoles {l : Launch} {g : Geo} (t1 : Nat) (hk1 : kd t1 = 9) (x2 : Int32) (x3 : Int32) (σ : St) {w : St} (h : f_X4_findHoles t1 x2 x3 σ = some w) : CtV l yX4_findHoles cX4_findHoles 5 none (rmm 3 69) g [.ref (g.2.2 (89)), .ref (g.2.2 (t1)), .int (x2), .int (x3)] σ w := enV (by decide) rfl (Nat.le_of_ble_eq_true rfl) (fun p e s m args below meth c Q X Y ls hl KR => w_X4_findHoles_0 X t1 hk1 x2 x3 σ KR Y hl h)
def I_X4_isInHole : List (Nat × Instr × Nat) := [(0, .aload_n 0, 1), (1, .iload_n 1, 1), (2, .invokevirtual 45, 3), (5, .iconst (-1), 1), (6, .if_icmp .ne 7, 3), (9, .iconst 1, 1), (10, .goto 4, 3), (13, .iconst 0, 1), (14, .ireturn, 1)]
set_option maxRecDepth 100000 in
theorem T_X4_isInHole : ∀ q ∈ I_X4_isInHole, decode cX4_isInHole q.1 = .ok (q.2.1, q.2.2) := by decide +kernel
def f_X4_isInHole_0 (x1 : Int32) (σ : St) : Option (Int32) :=
  (f_X4_labelAt x1 σ).bind fun q1 => if q1 = (-1) then some 1 else some 0
set_option maxHeartbeats 4000000 in
set_option maxRecDepth 100000 in
theorem w_X4_isInHole_0 (X : Cx g RX4 cX4_isInHole 2 (some .boolean) p s m args meth c) (x1 : Int32) (σ : St) {w : Int32} (KR : ∀ (H : Heap) (locs : List Loc) (ls : Array Slot) (pc : Nat), Wd g s σ H locs → decode cX4_isInHole pc = .ok (.ireturn, 1) → W p l e (rmm 1 21) s m args below meth c H locs 0 0 Q (F0 m pc ls [.int (w)])) {H : Heap} {locs : List Loc} {ls : Array Slot} (Y : Wd g s σ H locs) (hl : lv_has ls 2 [(0, .ref (g.2.2 (89))), (1, .int (x1))]) (h : f_X4_isInHole_0 x1 σ = some w) : W p l e (rmm 1 21) s m args below meth c H locs 0 0 Q (F0 m 0 ls []) := by
  unfold f_X4_isInHole_0 at h
  refine lv_aload_n X.1 X.2.1 (dk T_X4_isInHole 0 rfl) rfl (lv_at hl 0 rfl) ?_
  refine lv_iload_n X.1 X.2.1 (dk T_X4_isInHole 1 rfl) rfl (lv_at hl 1 rfl) ?_
  obtain ⟨q1, hq1, h⟩ := bs h
  refine gvI (rest := []) X Y (c_X4_labelAt x1 σ hq1) cb_X4_45 rfl hl.1 rfl rfl (Nat.le_of_ble_eq_true rfl) ⟨Nat.le_of_ble_eq_true rfl, Nat.le_of_ble_eq_true rfl⟩ (dk T_X4_isInHole 2 rfl) (fun H locs Y => ?_)
  refine lv_iconst (v := (-1)) X.1 X.2.1 (dk T_X4_isInHole 3 rfl) ic_m1 ?_
  refine lv_icmp_ne (tgt := 13) X.1 X.2.1 (dk T_X4_isInHole 4 rfl) rfl (fun c2 => ?_) (fun c2 => ?_)
  · replace h := ineg c2 h
    refine lv_iconst (v := 0) X.1 X.2.1 (dk T_X4_isInHole 7 rfl) ic_0 ?_
    obtain rfl := Option.some.inj h
    exact KR _ _ _ _ Y (dk T_X4_isInHole 8 rfl)
  · replace h := ipos c2 h
    refine lv_iconst (v := 1) X.1 X.2.1 (dk T_X4_isInHole 5 rfl) ic_1 ?_
    refine lv_goto (tgt := 14) X.1 X.2.1 (dk T_X4_isInHole 6 rfl) rfl ?_
    obtain rfl := Option.some.inj h
    exact KR _ _ _ _ Y (dk T_X4_isInHole 8 rfl)
def f_X4_isInHole (x1 : Int32) (σ : St) : Option (Int32) := bz (f_X4_isInHole_0 x1 σ)
set_option maxHeartbeats 4000000 in
set_option maxRecDepth 100000 in
theorem c_X4_isInHole {l : Launch} {g : Geo} (x1 : Int32) (σ : St) {w : Int32} (h : f_X4_isInHole x1 σ = some w) : CtI l yX4_isInHole cX4_isInHole 2 (some .boolean) (rmm 1 21) g [.ref (g.2.2 (89)), .int (x1)] σ w σ := by
  obtain ⟨h, hz⟩ := bz_s h
  exact enI .boolean (by decide) rfl (bz_n hz) (Nat.le_of_ble_eq_true rfl) (fun p e s m args below meth c Q X Y ls hl KR => w_X4_isInHole_0 X x1 σ KR Y hl h)
def I_X4_smallestAround : List (Nat × Instr × Nat) := [(0, .aload_n 1, 1), (1, .getfield 53, 3), (4, .iload_n 2, 1), (5, .iconst 1, 1), (6, .invokevirtual 57, 3), (9, .istore_n 3, 1), (10, .aload_n 1, 1), (11, .iload_n 2, 1), (12, .invokevirtual 62, 3), (15, .istore 4, 2), (17, .iconst (-1), 1), (18, .istore 5, 2), (20, .iconst 0, 1), (21, .istore 6, 2), (23, .iload 6, 2), (25, .aload_n 1, 1), (26, .getfield 53, 3), (29, .invokevirtual 65, 3), (32, .if_icmp .ge 64, 3), (35, .aload_n 1, 1), (36, .getfield 53, 3), (39, .iload 6, 2), (41, .iconst 1, 1), (42, .invokevirtual 57, 3), (45, .iload_n 3, 1), (46, .if_icmp .ne 44, 3), (49, .aload_n 0, 1), (50, .aload_n 1, 1), (51, .iload_n 3, 1), (52, .iload 6, 2), (54, .invokevirtual 69, 3), (57, .aload_n 0, 1), (58, .iload 4, 2), (60, .invokevirtual 73, 3), (63, .ifCond .eq 27, 3), (66, .iload 5, 2), (68, .ifCond .lt 18, 3), (71, .aload_n 1, 1), (72, .iload 6, 2), (74, .invokevirtual 77, 3), (77, .aload_n 1, 1), (78, .iload 5, 2), (80, .invokevirtual 77, 3), (83, .if_icmp .ge 7, 3), (86, .iload 6, 2), (88, .istore 5, 2), (90, .iinc 6 1, 3), (93, .goto (-70), 3), (96, .iload 5, 2), (98, .ireturn, 1)]
set_option maxRecDepth 100000 in
theorem T_X4_smallestAround : ∀ q ∈ I_X4_smallestAround, decode cX4_smallestAround q.1 = .ok (q.2.1, q.2.2) := by decide +kernel
def f_X4_smallestAround_j90 (t1 : Nat) (x3 : Int32) (x4 : Int32) (x5 : Int32) (x6 : Int32) (σ : St) : Option ((Int32 × Int32 × St) ⊕ (Int32 × St)) :=
  some (.inl (x5, x6 + 1, σ))
set_option maxHeartbeats 4000000 in
set_option maxRecDepth 100000 in
theorem w_X4_smallestAround_j90 (X : Cx g RX4 cX4_smallestAround 7 (some .int) p s m args meth c) (t1 : Nat) (hk1 : kd t1 = 9) (x3 : Int32) (x4 : Int32) (x5 : Int32) (x6 : Int32) (σ : St) {w : (Int32 × Int32 × St) ⊕ (Int32 × St)} (KB : ∀ (v0_ : Int32) (v1_ : Int32) (v2_ : St), w = .inl (v0_, v1_, v2_) → ∀ (H : Heap) (locs : List Loc) (ls : Array Slot), Wd g s v2_ H locs → lv_has ls 7 [(0, .ref (g.2.2 (89))), (1, .ref (g.2.2 (t1))), (3, .int (x3)), (4, .int (x4)), (5, .int (v0_)), (6, .int (v1_))] → W p l e (rmm 4 93) s m args below meth c H locs 0 0 Q (F0 m 23 ls [])) (KX0 : ∀ (v0_ : Int32) (v1_ : St), w = .inr (v0_, v1_) → ∀ (H : Heap) (locs : List Loc) (ls : Array Slot), Wd g s v1_ H locs → lv_has ls 7 [(5, .int (v0_))] → W p l e (rmm 4 93) s m args below meth c H locs 0 0 Q (F0 m 96 ls [])) {H : Heap} {locs : List Loc} {ls : Array Slot} (Y : Wd g s σ H locs) (hl : lv_has ls 7 [(0, .ref (g.2.2 (89))), (1, .ref (g.2.2 (t1))), (3, .int (x3)), (4, .int (x4)), (5, .int (x5)), (6, .int (x6))]) (h : f_X4_smallestAround_j90 t1 x3 x4 x5 x6 σ = some w) : W p l e (rmm 4 93) s m args below meth c H locs 0 0 Q (F0 m 90 ls []) := by
  unfold f_X4_smallestAround_j90 at h
  refine lv_iinc (v := x6 + 1) (lv' := [(6, .int (x6 + 1)), (0, .ref (g.2.2 (89))), (1, .ref (g.2.2 (t1))), (3, .int (x3)), (4, .int (x4)), (5, .int (x5))]) X.1 X.2.1 (dk T_X4_smallestAround 46 rfl) hl (k := 5) rfl (icx ic_1) (Nat.le_of_ble_eq_true rfl) rfl (fun ls hl => ?_)
  refine lv_goto (tgt := 23) X.1 X.2.1 (dk T_X4_smallestAround 47 rfl) rfl ?_
  exact KB x5 (x6 + 1) σ (Option.some.inj h).symm _ _ _ Y (lv_sub hl [1, 2, 3, 4, 5, 0] rfl)
def f_X4_smallestAround_j86 (t1 : Nat) (x3 : Int32) (x4 : Int32) (x6 : Int32) (σ : St) : Option ((Int32 × Int32 × St) ⊕ (Int32 × St)) :=
  f_X4_smallestAround_j90 t1 x3 x4 x6 x6 σ
set_option maxHeartbeats 4000000 in
set_option maxRecDepth 100000 in
theorem w_X4_smallestAround_j86 (X : Cx g RX4 cX4_smallestAround 7 (some .int) p s m args meth c) (t1 : Nat) (hk1 : kd t1 = 9) (x3 : Int32) (x4 : Int32) (x6 : Int32) (σ : St) {w : (Int32 × Int32 × St) ⊕ (Int32 × St)} (KB : ∀ (v0_ : Int32) (v1_ : Int32) (v2_ : St), w = .inl (v0_, v1_, v2_) → ∀ (H : Heap) (locs : List Loc) (ls : Array Slot), Wd g s v2_ H locs → lv_has ls 7 [(0, .ref (g.2.2 (89))), (1, .ref (g.2.2 (t1))), (3, .int (x3)), (4, .int (x4)), (5, .int (v0_)), (6, .int (v1_))] → W p l e (rmm 4 93) s m args below meth c H locs 0 0 Q (F0 m 23 ls [])) (KX0 : ∀ (v0_ : Int32) (v1_ : St), w = .inr (v0_, v1_) → ∀ (H : Heap) (locs : List Loc) (ls : Array Slot), Wd g s v1_ H locs → lv_has ls 7 [(5, .int (v0_))] → W p l e (rmm 4 93) s m args below meth c H locs 0 0 Q (F0 m 96 ls [])) {H : Heap} {locs : List Loc} {ls : Array Slot} (Y : Wd g s σ H locs) (hl : lv_has ls 7 [(0, .ref (g.2.2 (89))), (1, .ref (g.2.2 (t1))), (3, .int (x3)), (4, .int (x4)), (6, .int (x6))]) (h : f_X4_smallestAround_j86 t1 x3 x4 x6 σ = some w) : W p l e (rmm 4 93) s m args below meth c H locs 0 0 Q (F0 m 86 ls []) := by
  unfold f_X4_smallestAround_j86 at h
  refine lv_iload X.1 X.2.1 (dk T_X4_smallestAround 44 rfl) (lv_at hl 4 rfl) ?_
  refine lv_istore (lv' := [(5, .int (x6)), (0, .ref (g.2.2 (89))), (1, .ref (g.2.2 (t1))), (3, .int (x3)), (4, .int (x4)), (6, .int (x6))]) X.1 X.2.1 (dk T_X4_smallestAround 45 rfl) hl (Nat.le_of_ble_eq_true rfl) rfl (fun ls hl => ?_)
  exact w_X4_smallestAround_j90 X t1 hk1 x3 x4 x6 x6 σ KB KX0 Y (lv_sub hl [1, 2, 3, 4, 0, 5] rfl) h
def f_X4_smallestAround_l23 (t1 : Nat) (x3 : Int32) (x4 : Int32) (z : Int32 × Int32 × St) : Option ((Int32 × Int32 × St) ⊕ (Int32 × St)) :=
  (f_X9_size (t1 + 5) z.2.2).bind fun q3 => if q3 ≤ z.2.1 then some (.inr (z.1, z.2.2)) else (f_X9_get (t1 + 5) z.2.1 1 z.2.2).bind fun q5 => if q5 = x3 then (f_X4_findHoles t1 x3 z.2.1 z.2.2).bind fun q7 => (f_X4_isInHole x4 q7).bind fun q8 => if q8 = 0 then f_X4_smallestAround_j90 t1 x3 x4 z.1 z.2.1 q7 else if z.1 < 0 then f_X4_smallestAround_j86 t1 x3 x4 z.2.1 q7 else (f_X8_sizeOfPart t1 z.2.1 q7).bind fun q11 => (f_X8_sizeOfPart t1 z.1 q7).bind fun q12 => if q12 ≤ q11 then f_X4_smallestAround_j90 t1 x3 x4 z.1 z.2.1 q7 else f_X4_smallestAround_j86 t1 x3 x4 z.2.1 q7 else f_X4_smallestAround_j90 t1 x3 x4 z.1 z.2.1 z.2.2
set_option maxHeartbeats 4000000 in
set_option maxRecDepth 100000 in
theorem w_X4_smallestAround_l23 (X : Cx g RX4 cX4_smallestAround 7 (some .int) p s m args meth c) (t1 : Nat) (hk1 : kd t1 = 9) (x3 : Int32) (x4 : Int32) (σ : St) {r : Int32 × St} (KX0 : ∀ (v0_ : Int32) (v1_ : St), r = (v0_, v1_) → ∀ (H : Heap) (locs : List Loc) (ls : Array Slot), Wd g s v1_ H locs → lv_has ls 7 [(5, .int (v0_))] → W p l e (rmm 4 93) s m args below meth c H locs 0 0 Q (F0 m 96 ls [])) : ∀ (n : Nat) (z : Int32 × Int32 × St) {H : Heap} {locs : List Loc} {ls : Array Slot}, Wd g s z.2.2 H locs → lv_has ls 7 [(0, .ref (g.2.2 (89))), (1, .ref (g.2.2 (t1))), (3, .int (x3)), (4, .int (x4)), (5, .int (z.1)), (6, .int (z.2.1))] → lp (f_X4_smallestAround_l23 t1 x3 x4) n z = some r → W p l e (rmm 4 93) s m args below meth c H locs 0 0 Q (F0 m 23 ls []) := by
  intro n
  induction n with
  | zero => intro z H locs ls Y hl h; cases h
  | succ n ih =>
    intro z H locs ls Y hl h
    obtain ⟨w, h, hw⟩ := lps h
    have KB : ∀ (v0_ : Int32) (v1_ : Int32) (v2_ : St), w = .inl (v0_, v1_, v2_) → ∀ (H : Heap) (locs : List Loc) (ls : Array Slot), Wd g s v2_ H locs → lv_has ls 7 [(0, .ref (g.2.2 (89))), (1, .ref (g.2.2 (t1))), (3, .int (x3)), (4, .int (x4)), (5, .int (v0_)), (6, .int (v1_))] → W p l e (rmm 4 93) s m args below meth c H locs 0 0 Q (F0 m 23 ls []) := fun v0_ v1_ v2_ e H locs ls Y hl => ih (v0_, v1_, v2_) Y hl (lpl hw e)
    have KX0 := fun (v0_ : Int32) (v1_ : St) (e : w = .inr (v0_, v1_)) => KX0 v0_ v1_ (lpr hw e)
    unfold f_X4_smallestAround_l23 at h
    refine lv_iload X.1 X.2.1 (dk T_X4_smallestAround 14 rfl) (lv_at hl 5 rfl) ?_
    refine lv_aload_n X.1 X.2.1 (dk T_X4_smallestAround 15 rfl) rfl (lv_at hl 1 rfl) ?_
    refine ggN X Y fl_X4_53 hk1 rfl (dk T_X4_smallestAround 16 rfl) ?_
    obtain ⟨q3, hq3, h⟩ := bs h
    refine gvI (rest := [.int (z.2.1)]) X Y (c_X9_size (t1 + 5) (ks5 hk1) z.2.2 hq3) cb_X4_65 (ks5 hk1) hl.1 rfl rfl (Nat.le_of_ble_eq_true rfl) ⟨Nat.le_of_ble_eq_true rfl, Nat.le_of_ble_eq_true rfl⟩ (dk T_X4_smallestAround 17 rfl) (fun H locs Y => ?_)
    refine lv_icmp_ge (tgt := 96) X.1 X.2.1 (dk T_X4_smallestAround 18 rfl) rfl (fun c4 => ?_) (fun c4 => ?_)
    · replace h := ipos c4 h
      exact KX0 z.1 z.2.2 (Option.some.inj h).symm _ _ _ Y (lv_sub hl [4] rfl)
    · replace h := ineg c4 h
      refine lv_aload_n X.1 X.2.1 (dk T_X4_smallestAround 19 rfl) rfl (lv_at hl 1 rfl) ?_
      refine ggN X Y fl_X4_53 hk1 rfl (dk T_X4_smallestAround 20 rfl) ?_
      refine lv_iload X.1 X.2.1 (dk T_X4_smallestAround 21 rfl) (lv_at hl 5 rfl) ?_
      refine lv_iconst (v := 1) X.1 X.2.1 (dk T_X4_smallestAround 22 rfl) ic_1 ?_
      obtain ⟨q5, hq5, h⟩ := bs h
      refine gvI (rest := []) X Y (c_X9_get (t1 + 5) (ks5 hk1) z.2.1 1 z.2.2 hq5) cb_X4_57 (ks5 hk1) hl.1 rfl rfl (Nat.le_of_ble_eq_true rfl) ⟨Nat.le_of_ble_eq_true rfl, Nat.le_of_ble_eq_true rfl⟩ (dk T_X4_smallestAround 23 rfl) (fun H locs Y => ?_)
      refine lv_iload_n X.1 X.2.1 (dk T_X4_smallestAround 24 rfl) rfl (lv_at hl 2 rfl) ?_
      refine lv_icmp_ne (tgt := 90) X.1 X.2.1 (dk T_X4_smallestAround 25 rfl) rfl (fun c6 => ?_) (fun c6 => ?_)
      · replace h := ineg c6 h
        exact w_X4_smallestAround_j90 X t1 hk1 x3 x4 z.1 z.2.1 z.2.2 KB KX0 Y (lv_sub hl [0, 1, 2, 3, 4, 5] rfl) h
      · replace h := ipos c6 h
        refine lv_aload_n X.1 X.2.1 (dk T_X4_smallestAround 26 rfl) rfl (lv_at hl 0 rfl) ?_
        refine lv_aload_n X.1 X.2.1 (dk T_X4_smallestAround 27 rfl) rfl (lv_at hl 1 rfl) ?_
        refine lv_iload_n X.1 X.2.1 (dk T_X4_smallestAround 28 rfl) rfl (lv_at hl 2 rfl) ?_
        refine lv_iload X.1 X.2.1 (dk T_X4_smallestAround 29 rfl) (lv_at hl 5 rfl) ?_
        obtain ⟨q7, hq7, h⟩ := bs h
        refine gvV (rest := []) X Y (c_X4_findHoles t1 hk1 x3 z.2.1 z.2.2 hq7) cb_X4_69 rfl hl.1 rfl rfl (Nat.le_of_ble_eq_true rfl) ⟨Nat.le_of_ble_eq_true rfl, Nat.le_of_ble_eq_true rfl⟩ (dk T_X4_smallestAround 30 rfl) (fun H locs Y => ?_)
        refine lv_aload_n X.1 X.2.1 (dk T_X4_smallestAround 31 rfl) rfl (lv_at hl 0 rfl) ?_
        refine lv_iload X.1 X.2.1 (dk T_X4_smallestAround 32 rfl) (lv_at hl 3 rfl) ?_
        obtain ⟨q8, hq8, h⟩ := bs h
        refine gvI (rest := []) X Y (c_X4_isInHole x4 q7 hq8) cb_X4_73 rfl hl.1 rfl rfl (Nat.le_of_ble_eq_true rfl) ⟨Nat.le_of_ble_eq_true rfl, Nat.le_of_ble_eq_true rfl⟩ (dk T_X4_smallestAround 33 rfl) (fun H locs Y => ?_)
        refine lv_if_eq (tgt := 90) X.1 X.2.1 (dk T_X4_smallestAround 34 rfl) rfl (fun c9 => ?_) (fun c9 => ?_)
        · replace h := ipos c9 h
          exact w_X4_smallestAround_j90 X t1 hk1 x3 x4 z.1 z.2.1 q7 KB KX0 Y (lv_sub hl [0, 1, 2, 3, 4, 5] rfl) h
        · replace h := ineg c9 h
          refine lv_iload X.1 X.2.1 (dk T_X4_smallestAround 35 rfl) (lv_at hl 4 rfl) ?_
          refine lv_if_lt (tgt := 86) X.1 X.2.1 (dk T_X4_smallestAround 36 rfl) rfl (fun c10 => ?_) (fun c10 => ?_)
          · replace h := ipos c10 h
            exact w_X4_smallestAround_j86 X t1 hk1 x3 x4 z.2.1 q7 KB KX0 Y (lv_sub hl [0, 1, 2, 3, 5] rfl) h
          · replace h := ineg c10 h
            refine lv_aload_n X.1 X.2.1 (dk T_X4_smallestAround 37 rfl) rfl (lv_at hl 1 rfl) ?_
            refine lv_iload X.1 X.2.1 (dk T_X4_smallestAround 38 rfl) (lv_at hl 5 rfl) ?_
            obtain ⟨q11, hq11, h⟩ := bs h
            refine gvI (rest := []) X Y (c_X8_sizeOfPart t1 hk1 z.2.1 q7 hq11) cb_X4_77 hk1 hl.1 rfl rfl (Nat.le_of_ble_eq_true rfl) ⟨Nat.le_of_ble_eq_true rfl, Nat.le_of_ble_eq_true rfl⟩ (dk T_X4_smallestAround 39 rfl) (fun H locs Y => ?_)
            refine lv_aload_n X.1 X.2.1 (dk T_X4_smallestAround 40 rfl) rfl (lv_at hl 1 rfl) ?_
            refine lv_iload X.1 X.2.1 (dk T_X4_smallestAround 41 rfl) (lv_at hl 4 rfl) ?_
            obtain ⟨q12, hq12, h⟩ := bs h
            refine gvI (rest := [.int (q11)]) X Y (c_X8_sizeOfPart t1 hk1 z.1 q7 hq12) cb_X4_77 hk1 hl.1 rfl rfl (Nat.le_of_ble_eq_true rfl) ⟨Nat.le_of_ble_eq_true rfl, Nat.le_of_ble_eq_true rfl⟩ (dk T_X4_smallestAround 42 rfl) (fun H locs Y => ?_)
            refine lv_icmp_ge (tgt := 90) X.1 X.2.1 (dk T_X4_smallestAround 43 rfl) rfl (fun c13 => ?_) (fun c13 => ?_)
            · replace h := ipos c13 h
              exact w_X4_smallestAround_j90 X t1 hk1 x3 x4 z.1 z.2.1 q7 KB KX0 Y (lv_sub hl [0, 1, 2, 3, 4, 5] rfl) h
            · replace h := ineg c13 h
              exact w_X4_smallestAround_j86 X t1 hk1 x3 x4 z.2.1 q7 KB KX0 Y (lv_sub hl [0, 1, 2, 3, 5] rfl) h
def f_X4_smallestAround_0 (t1 : Nat) (x2 : Int32) (σ : St) : Option (Int32 × St) :=
  (f_X9_get (t1 + 5) x2 1 σ).bind fun q1 => (f_X8_lowestCell t1 x2 σ).bind fun q2 => (lp (f_X4_smallestAround_l23 t1 q1 q2) FU ((-1), 0, σ)).bind fun q14 => some (q14.1, q14.2)
set_option maxHeartbeats 4000000 in
set_option maxRecDepth 100000 in
theorem w_X4_smallestAround_0 (X : Cx g RX4 cX4_smallestAround 7 (some .int) p s m args meth c) (t1 : Nat) (hk1 : kd t1 = 9) (x2 : Int32) (σ : St) {w : Int32 × St} (KR : ∀ (H : Heap) (locs : List Loc) (ls : Array Slot) (pc : Nat), Wd g s w.2 H locs → decode cX4_smallestAround pc = .ok (.ireturn, 1) → W p l e (rmm 4 93) s m args below meth c H locs 0 0 Q (F0 m pc ls [.int (w.1)])) {H : Heap} {locs : List Loc} {ls : Array Slot} (Y : Wd g s σ H locs) (hl : lv_has ls 7 [(0, .ref (g.2.2 (89))), (1, .ref (g.2.2 (t1))), (2, .int (x2))]) (h : f_X4_smallestAround_0 t1 x2 σ = some w) : W p l e (rmm 4 93) s m args below meth c H locs 0 0 Q (F0 m 0 ls []) := by
  unfold f_X4_smallestAround_0 at h
  refine lv_aload_n X.1 X.2.1 (dk T_X4_smallestAround 0 rfl) rfl (lv_at hl 1 rfl) ?_
  refine ggN X Y fl_X4_53 hk1 rfl (dk T_X4_smallestAround 1 rfl) ?_
  refine lv_iload_n X.1 X.2.1 (dk T_X4_smallestAround 2 rfl) rfl (lv_at hl 2 rfl) ?_
  refine lv_iconst (v := 1) X.1 X.2.1 (dk T_X4_smallestAround 3 rfl) ic_1 ?_
  obtain ⟨q1, hq1, h⟩ := bs h
  refine gvI (rest := []) X Y (c_X9_get (t1 + 5) (ks5 hk1) x2 1 σ hq1) cb_X4_57 (ks5 hk1) hl.1 rfl rfl (Nat.le_of_ble_eq_true rfl) ⟨Nat.le_of_ble_eq_true rfl, Nat.le_of_ble_eq_true rfl⟩ (dk T_X4_smallestAround 4 rfl) (fun H locs Y => ?_)
  refine lv_istore_n (lv' := [(3, .int (q1)), (0, .ref (g.2.2 (89))), (1, .ref (g.2.2 (t1))), (2, .int (x2))]) X.1 X.2.1 (dk T_X4_smallestAround 5 rfl) rfl hl (Nat.le_of_ble_eq_true rfl) rfl (fun ls hl => ?_)
  refine lv_aload_n X.1 X.2.1 (dk T_X4_smallestAround 6 rfl) rfl (lv_at hl 2 rfl) ?_
  refine lv_iload_n X.1 X.2.1 (dk T_X4_smallestAround 7 rfl) rfl (lv_at hl 3 rfl) ?_
  obtain ⟨q2, hq2, h⟩ := bs h
  refine gvI (rest := []) X Y (c_X8_lowestCell t1 hk1 x2 σ hq2) cb_X4_62 hk1 hl.1 rfl rfl (Nat.le_of_ble_eq_true rfl) ⟨Nat.le_of_ble_eq_true rfl, Nat.le_of_ble_eq_true rfl⟩ (dk T_X4_smallestAround 8 rfl) (fun H locs Y => ?_)
  refine lv_istore (lv' := [(4, .int (q2)), (3, .int (q1)), (0, .ref (g.2.2 (89))), (1, .ref (g.2.2 (t1))), (2, .int (x2))]) X.1 X.2.1 (dk T_X4_smallestAround 9 rfl) hl (Nat.le_of_ble_eq_true rfl) rfl (fun ls hl => ?_)
  refine lv_iconst (v := (-1)) X.1 X.2.1 (dk T_X4_smallestAround 10 rfl) ic_m1 ?_
  refine lv_istore (lv' := [(5, .int ((-1))), (4, .int (q2)), (3, .int (q1)), (0, .ref (g.2.2 (89))), (1, .ref (g.2.2 (t1))), (2, .int (x2))]) X.1 X.2.1 (dk T_X4_smallestAround 11 rfl) hl (Nat.le_of_ble_eq_true rfl) rfl (fun ls hl => ?_)
  refine lv_iconst (v := 0) X.1 X.2.1 (dk T_X4_smallestAround 12 rfl) ic_0 ?_
  refine lv_istore (lv' := [(6, .int (0)), (5, .int ((-1))), (4, .int (q2)), (3, .int (q1)), (0, .ref (g.2.2 (89))), (1, .ref (g.2.2 (t1))), (2, .int (x2))]) X.1 X.2.1 (dk T_X4_smallestAround 13 rfl) hl (Nat.le_of_ble_eq_true rfl) rfl (fun ls hl => ?_)
  obtain ⟨q14, hq14, h⟩ := bs h
  refine w_X4_smallestAround_l23 X t1 hk1 q1 q2 σ (fun v0_ v1_ e H locs ls Y hl => ?_) FU ((-1), 0, σ) Y (lv_sub hl [4, 5, 3, 2, 1, 0] rfl) hq14
  · obtain ⟨rfl, rfl⟩ : v0_ = q14.1 ∧ v1_ = q14.2 := ⟨by rw [e], by rw [e]⟩
    refine lv_iload X.1 X.2.1 (dk T_X4_smallestAround 48 rfl) (lv_at hl 0 rfl) ?_
    obtain rfl := Option.some.inj h
    exact KR _ _ _ _ Y (dk T_X4_smallestAround 49 rfl)
def f_X4_smallestAround (t1 : Nat) (x2 : Int32) (σ : St) : Option (Int32 × St) := f_X4_smallestAround_0 t1 x2 σ
set_option maxHeartbeats 4000000 in
set_option maxRecDepth 100000 in
theorem c_X4_smallestAround {l : Launch} {g : Geo} (t1 : Nat) (hk1 : kd t1 = 9) (x2 : Int32) (σ : St) {w : Int32 × St} (h : f_X4_smallestAround t1 x2 σ = some w) : CtI l yX4_smallestAround cX4_smallestAround 7 (some .int) (rmm 4 93) g [.ref (g.2.2 (89)), .ref (g.2.2 (t1)), .int (x2)] σ w.1 w.2 := enI .int (by decide) rfl rfl (Nat.le_of_ble_eq_true rfl) (fun p e s m args below meth c Q X Y ls hl KR => w_X4_smallestAround_0 X t1 hk1 x2 σ KR Y hl h)
def I_X4_measureCell : List (Nat × Instr × Nat) := [(0, .aload_n 0, 1), (1, .getfield 28, 3), (4, .ifCond .ne 15, 3), (7, .aload_n 0, 1), (8, .iload_n 1, 1), (9, .aload_n 0, 1), (10, .getfield 18, 3), (13, .iload_n 2, 1), (14, .imul, 1), (15, .iadd, 1), (16, .putfield 93, 3), (19, .aload_n 0, 1), (20, .dup, 1), (21, .getfield 28, 3), (24, .iconst 1, 1), (25, .iadd, 1), (26, .putfield 28, 3), (29, .aload_n 0, 1), (30, .aload_n 0, 1), (31, .getfield 96, 3), (34, .iload_n 1, 1), (35, .invokestatic 111, 3), (38, .putfield 96, 3), (41, .aload_n 0, 1), (42, .aload_n 0, 1), (43, .getfield 99, 3), (46, .iload_n 1, 1), (47, .invokestatic 116, 3), (50, .putfield 99, 3), (53, .aload_n 0, 1), (54, .aload_n 0, 1), (55, .getfield 102, 3), (58, .iload_n 2, 1), (59, .invokestatic 111, 3), (62, .putfield 102, 3), (65, .aload_n 0, 1), (66, .aload_n 0, 1), (67, .getfield 105, 3), (70, .iload_n 2, 1), (71, .invokestatic 116, 3), (74, .putfield 105, 3), (77, .return_, 1)]
set_option maxRecDepth 100000 in
theorem T_X4_measureCell : ∀ q ∈ I_X4_measureCell, decode cX4_measureCell q.1 = .ok (q.2.1, q.2.2) := by decide +kernel
def f_X4_measureCell_j19 (x1 : Int32) (x2 : Int32) (σ : St) : Option (St) :=
  some (up (up (up (up (up σ 89 5 ((σ 89 5) + 1)) 89 7 (if x1 < (up σ 89 5 ((σ 89 5) + 1) 89 7) then x1 else (up σ 89 5 ((σ 89 5) + 1) 89 7))) 89 8 (if (up (up σ 89 5 ((σ 89 5) + 1)) 89 7 (if x1 < (up σ 89 5 ((σ 89 5) + 1) 89 7) then x1 else (up σ 89 5 ((σ 89 5) + 1) 89 7)) 89 8) < x1 then x1 else (up (up σ 89 5 ((σ 89 5) + 1)) 89 7 (if x1 < (up σ 89 5 ((σ 89 5) + 1) 89 7) then x1 else (up σ 89 5 ((σ 89 5) + 1) 89 7)) 89 8))) 89 9 (if x2 < (up (up (up σ 89 5 ((σ 89 5) + 1)) 89 7 (if x1 < (up σ 89 5 ((σ 89 5) + 1) 89 7) then x1 else (up σ 89 5 ((σ 89 5) + 1) 89 7))) 89 8 (if (up (up σ 89 5 ((σ 89 5) + 1)) 89 7 (if x1 < (up σ 89 5 ((σ 89 5) + 1) 89 7) then x1 else (up σ 89 5 ((σ 89 5) + 1) 89 7)) 89 8) < x1 then x1 else (up (up σ 89 5 ((σ 89 5) + 1)) 89 7 (if x1 < (up σ 89 5 ((σ 89 5) + 1) 89 7) then x1 else (up σ 89 5 ((σ 89 5) + 1) 89 7)) 89 8)) 89 9) then x2 else (up (up (up σ 89 5 ((σ 89 5) + 1)) 89 7 (if x1 < (up σ 89 5 ((σ 89 5) + 1) 89 7) then x1 else (up σ 89 5 ((σ 89 5) + 1) 89 7))) 89 8 (if (up (up σ 89 5 ((σ 89 5) + 1)) 89 7 (if x1 < (up σ 89 5 ((σ 89 5) + 1) 89 7) then x1 else (up σ 89 5 ((σ 89 5) + 1) 89 7)) 89 8) < x1 then x1 else (up (up σ 89 5 ((σ 89 5) + 1)) 89 7 (if x1 < (up σ 89 5 ((σ 89 5) + 1) 89 7) then x1 else (up σ 89 5 ((σ 89 5) + 1) 89 7)) 89 8)) 89 9))) 89 10 (if (up (up (up (up σ 89 5 ((σ 89 5) + 1)) 89 7 (if x1 < (up σ 89 5 ((σ 89 5) + 1) 89 7) then x1 else (up σ 89 5 ((σ 89 5) + 1) 89 7))) 89 8 (if (up (up σ 89 5 ((σ 89 5) + 1)) 89 7 (if x1 < (up σ 89 5 ((σ 89 5) + 1) 89 7) then x1 else (up σ 89 5 ((σ 89 5) + 1) 89 7)) 89 8) < x1 then x1 else (up (up σ 89 5 ((σ 89 5) + 1)) 89 7 (if x1 < (up σ 89 5 ((σ 89 5) + 1) 89 7) then x1 else (up σ 89 5 ((σ 89 5) + 1) 89 7)) 89 8))) 89 9 (if x2 < (up (up (up σ 89 5 ((σ 89 5) + 1)) 89 7 (if x1 < (up σ 89 5 ((σ 89 5) + 1) 89 7) then x1 else (up σ 89 5 ((σ 89 5) + 1) 89 7))) 89 8 (if (up (up σ 89 5 ((σ 89 5) + 1)) 89 7 (if x1 < (up σ 89 5 ((σ 89 5) + 1) 89 7) then x1 else (up σ 89 5 ((σ 89 5) + 1) 89 7)) 89 8) < x1 then x1 else (up (up σ 89 5 ((σ 89 5) + 1)) 89 7 (if x1 < (up σ 89 5 ((σ 89 5) + 1) 89 7) then x1 else (up σ 89 5 ((σ 89 5) + 1) 89 7)) 89 8)) 89 9) then x2 else (up (up (up σ 89 5 ((σ 89 5) + 1)) 89 7 (if x1 < (up σ 89 5 ((σ 89 5) + 1) 89 7) then x1 else (up σ 89 5 ((σ 89 5) + 1) 89 7))) 89 8 (if (up (up σ 89 5 ((σ 89 5) + 1)) 89 7 (if x1 < (up σ 89 5 ((σ 89 5) + 1) 89 7) then x1 else (up σ 89 5 ((σ 89 5) + 1) 89 7)) 89 8) < x1 then x1 else (up (up σ 89 5 ((σ 89 5) + 1)) 89 7 (if x1 < (up σ 89 5 ((σ 89 5) + 1) 89 7) then x1 else (up σ 89 5 ((σ 89 5) + 1) 89 7)) 89 8)) 89 9)) 89 10) < x2 then x2 else (up (up (up (up σ 89 5 ((σ 89 5) + 1)) 89 7 (if x1 < (up σ 89 5 ((σ 89 5) + 1) 89 7) then x1 else (up σ 89 5 ((σ 89 5) + 1) 89 7))) 89 8 (if (up (up σ 89 5 ((σ 89 5) + 1)) 89 7 (if x1 < (up σ 89 5 ((σ 89 5) + 1) 89 7) then x1 else (up σ 89 5 ((σ 89 5) + 1) 89 7)) 89 8) < x1 then x1 else (up (up σ 89 5 ((σ 89 5) + 1)) 89 7 (if x1 < (up σ 89 5 ((σ 89 5) + 1) 89 7) then x1 else (up σ 89 5 ((σ 89 5) + 1) 89 7)) 89 8))) 89 9 (if x2 < (up (up (up σ 89 5 ((σ 89 5) + 1)) 89 7 (if x1 < (up σ 89 5 ((σ 89 5) + 1) 89 7) then x1 else (up σ 89 5 ((σ 89 5) + 1) 89 7))) 89 8 (if (up (up σ 89 5 ((σ 89 5) + 1)) 89 7 (if x1 < (up σ 89 5 ((σ 89 5) + 1) 89 7) then x1 else (up σ 89 5 ((σ 89 5) + 1) 89 7)) 89 8) < x1 then x1 else (up (up σ 89 5 ((σ 89 5) + 1)) 89 7 (if x1 < (up σ 89 5 ((σ 89 5) + 1) 89 7) then x1 else (up σ 89 5 ((σ 89 5) + 1) 89 7)) 89 8)) 89 9) then x2 else (up (up (up σ 89 5 ((σ 89 5) + 1)) 89 7 (if x1 < (up σ 89 5 ((σ 89 5) + 1) 89 7) then x1 else (up σ 89 5 ((σ 89 5) + 1) 89 7))) 89 8 (if (up (up σ 89 5 ((σ 89 5) + 1)) 89 7 (if x1 < (up σ 89 5 ((σ 89 5) + 1) 89 7) then x1 else (up σ 89 5 ((σ 89 5) + 1) 89 7)) 89 8) < x1 then x1 else (up (up σ 89 5 ((σ 89 5) + 1)) 89 7 (if x1 < (up σ 89 5 ((σ 89 5) + 1) 89 7) then x1 else (up σ 89 5 ((σ 89 5) + 1) 89 7)) 89 8)) 89 9)) 89 10)))
set_option maxHeartbeats 4000000 in
set_option maxRecDepth 100000 in
theorem w_X4_measureCell_j19 (X : Cx g RX4 cX4_measureCell 3 none p s m args meth c) (x1 : Int32) (x2 : Int32) (σ : St) {w : St} (KR : ∀ (H : Heap) (locs : List Loc) (ls : Array Slot) (pc : Nat), Wd g s w H locs → decode cX4_measureCell pc = .ok (.return_, 1) → W p l e (rmm 1 21) s m args below meth c H locs 0 0 Q (F0 m pc ls [])) {H : Heap} {locs : List Loc} {ls : Array Slot} (Y : Wd g s σ H locs) (hl : lv_has ls 3 [(0, .ref (g.2.2 (89))), (1, .int (x1)), (2, .int (x2))]) (h : f_X4_measureCell_j19 x1 x2 σ = some w) : W p l e (rmm 1 21) s m args below meth c H locs 0 0 Q (F0 m 19 ls []) := by
  unfold f_X4_measureCell_j19 at h
  refine lv_aload_n X.1 X.2.1 (dk T_X4_measureCell 11 rfl) rfl (lv_at hl 0 rfl) ?_
  refine lv_dup X.1 X.2.1 (dk T_X4_measureCell 12 rfl) rfl ?_
  refine gg X Y fl_X4_28 rfl rfl (dk T_X4_measureCell 13 rfl) ?_
  refine lv_iconst (v := 1) X.1 X.2.1 (dk T_X4_measureCell 14 rfl) ic_1 ?_
  refine lv_iadd X.1 X.2.1 (dk T_X4_measureCell 15 rfl) ?_
  refine gp X Y fp_X4_28 rfl (nar_int _) (dk T_X4_measureCell 16 rfl) (fun H locs Y => ?_)
  refine lv_aload_n X.1 X.2.1 (dk T_X4_measureCell 17 rfl) rfl (lv_at hl 0 rfl) ?_
  refine lv_aload_n X.1 X.2.1 (dk T_X4_measureCell 18 rfl) rfl (lv_at hl 0 rfl) ?_
  refine gg X Y fl_X4_96 rfl rfl (dk T_X4_measureCell 19 rfl) ?_
  refine lv_iload_n X.1 X.2.1 (dk T_X4_measureCell 20 rfl) rfl (lv_at hl 1 rfl) ?_
  refine gm_min X mb_X4_111 hl.1 (Nat.le_of_ble_eq_true rfl) (Nat.le_of_ble_eq_true rfl) (dk T_X4_measureCell 21 rfl) ?_
  refine gp X Y fp_X4_96 rfl (nar_int _) (dk T_X4_measureCell 22 rfl) (fun H locs Y => ?_)
  refine lv_aload_n X.1 X.2.1 (dk T_X4_measureCell 23 rfl) rfl (lv_at hl 0 rfl) ?_
  refine lv_aload_n X.1 X.2.1 (dk T_X4_measureCell 24 rfl) rfl (lv_at hl 0 rfl) ?_
  refine gg X Y fl_X4_99 rfl rfl (dk T_X4_measureCell 25 rfl) ?_
  refine lv_iload_n X.1 X.2.1 (dk T_X4_measureCell 26 rfl) rfl (lv_at hl 1 rfl) ?_
  refine gm_max X mb_X4_116 hl.1 (Nat.le_of_ble_eq_true rfl) (Nat.le_of_ble_eq_true rfl) (dk T_X4_measureCell 27 rfl) ?_
  refine gp X Y fp_X4_99 rfl (nar_int _) (dk T_X4_measureCell 28 rfl) (fun H locs Y => ?_)
  refine lv_aload_n X.1 X.2.1 (dk T_X4_measureCell 29 rfl) rfl (lv_at hl 0 rfl) ?_
  refine lv_aload_n X.1 X.2.1 (dk T_X4_measureCell 30 rfl) rfl (lv_at hl 0 rfl) ?_
  refine gg X Y fl_X4_102 rfl rfl (dk T_X4_measureCell 31 rfl) ?_
  refine lv_iload_n X.1 X.2.1 (dk T_X4_measureCell 32 rfl) rfl (lv_at hl 2 rfl) ?_
  refine gm_min X mb_X4_111 hl.1 (Nat.le_of_ble_eq_true rfl) (Nat.le_of_ble_eq_true rfl) (dk T_X4_measureCell 33 rfl) ?_
  refine gp X Y fp_X4_102 rfl (nar_int _) (dk T_X4_measureCell 34 rfl) (fun H locs Y => ?_)
  refine lv_aload_n X.1 X.2.1 (dk T_X4_measureCell 35 rfl) rfl (lv_at hl 0 rfl) ?_
  refine lv_aload_n X.1 X.2.1 (dk T_X4_measureCell 36 rfl) rfl (lv_at hl 0 rfl) ?_
  refine gg X Y fl_X4_105 rfl rfl (dk T_X4_measureCell 37 rfl) ?_
  refine lv_iload_n X.1 X.2.1 (dk T_X4_measureCell 38 rfl) rfl (lv_at hl 2 rfl) ?_
  refine gm_max X mb_X4_116 hl.1 (Nat.le_of_ble_eq_true rfl) (Nat.le_of_ble_eq_true rfl) (dk T_X4_measureCell 39 rfl) ?_
  refine gp X Y fp_X4_105 rfl (nar_int _) (dk T_X4_measureCell 40 rfl) (fun H locs Y => ?_)
  obtain rfl := Option.some.inj h
  exact KR _ _ _ _ Y (dk T_X4_measureCell 41 rfl)
def f_X4_measureCell_0 (x1 : Int32) (x2 : Int32) (σ : St) : Option (St) :=
  if (σ 89 5) = 0 then f_X4_measureCell_j19 x1 x2 (up σ 89 6 (x1 + ((σ 89 2) * x2))) else f_X4_measureCell_j19 x1 x2 σ
set_option maxHeartbeats 4000000 in
set_option maxRecDepth 100000 in
theorem w_X4_measureCell_0 (X : Cx g RX4 cX4_measureCell 3 none p s m args meth c) (x1 : Int32) (x2 : Int32) (σ : St) {w : St} (KR : ∀ (H : Heap) (locs : List Loc) (ls : Array Slot) (pc : Nat), Wd g s w H locs → decode cX4_measureCell pc = .ok (.return_, 1) → W p l e (rmm 1 21) s m args below meth c H locs 0 0 Q (F0 m pc ls [])) {H : Heap} {locs : List Loc} {ls : Array Slot} (Y : Wd g s σ H locs) (hl : lv_has ls 3 [(0, .ref (g.2.2 (89))), (1, .int (x1)), (2, .int (x2))]) (h : f_X4_measureCell_0 x1 x2 σ = some w) : W p l e (rmm 1 21) s m args below meth c H locs 0 0 Q (F0 m 0 ls []) := by
  unfold f_X4_measureCell_0 at h
  refine lv_aload_n X.1 X.2.1 (dk T_X4_measureCell 0 rfl) rfl (lv_at hl 0 rfl) ?_
  refine gg X Y fl_X4_28 rfl rfl (dk T_X4_measureCell 1 rfl) ?_
  refine lv_if_ne (tgt := 19) X.1 X.2.1 (dk T_X4_measureCell 2 rfl) rfl (fun c1 => ?_) (fun c1 => ?_)
  · replace h := ineg c1 h
    exact w_X4_measureCell_j19 X x1 x2 σ KR Y (lv_sub hl [0, 1, 2] rfl) h
  · replace h := ipos c1 h
    refine lv_aload_n X.1 X.2.1 (dk T_X4_measureCell 3 rfl) rfl (lv_at hl 0 rfl) ?_
    refine lv_iload_n X.1 X.2.1 (dk T_X4_measureCell 4 rfl) rfl (lv_at hl 1 rfl) ?_
    refine lv_aload_n X.1 X.2.1 (dk T_X4_measureCell 5 rfl) rfl (lv_at hl 0 rfl) ?_
    refine gg X Y fl_X4_18 rfl rfl (dk T_X4_measureCell 6 rfl) ?_
    refine lv_iload_n X.1 X.2.1 (dk T_X4_measureCell 7 rfl) rfl (lv_at hl 2 rfl) ?_
    refine lv_imul X.1 X.2.1 (dk T_X4_measureCell 8 rfl) ?_
    refine lv_iadd X.1 X.2.1 (dk T_X4_measureCell 9 rfl) ?_
    refine gp X Y fp_X4_93 rfl (nar_int _) (dk T_X4_measureCell 10 rfl) (fun H locs Y => ?_)
    exact w_X4_measureCell_j19 X x1 x2 (up σ 89 6 (x1 + ((σ 89 2) * x2))) KR Y (lv_sub hl [0, 1, 2] rfl) h
def f_X4_measureCell (x1 : Int32) (x2 : Int32) (σ : St) : Option (St) := f_X4_measureCell_0 x1 x2 σ
set_option maxHeartbeats 4000000 in
set_option maxRecDepth 100000 in
theorem c_X4_measureCell {l : Launch} {g : Geo} (x1 : Int32) (x2 : Int32) (σ : St) {w : St} (h : f_X4_measureCell x1 x2 σ = some w) : CtV l yX4_measureCell cX4_measureCell 3 none (rmm 1 21) g [.ref (g.2.2 (89)), .int (x1), .int (x2)] σ w := enV (by decide) rfl (Nat.le_of_ble_eq_true rfl) (fun p e s m args below meth c Q X Y ls hl KR => w_X4_measureCell_0 X x1 x2 σ KR Y hl h)
def I_X4_measure : List (Nat × Instr × Nat) := [(0, .aload_n 0, 1), (1, .iconst 0, 1), (2, .putfield 28, 3), (5, .aload_n 0, 1), (6, .iconst (-1), 1), (7, .putfield 93, 3), (10, .aload_n 0, 1), (11, .aload_n 0, 1), (12, .getfield 18, 3), (15, .putfield 96, 3), (18, .aload_n 0, 1), (19, .iconst (-1), 1), (20, .putfield 99, 3), (23, .aload_n 0, 1), (24, .aload_n 0, 1), (25, .getfield 22, 3), (28, .putfield 102, 3), (31, .aload_n 0, 1), (32, .iconst (-1), 1), (33, .putfield 105, 3), (36, .iconst 0, 1), (37, .istore_n 2, 1), (38, .iload_n 2, 1), (39, .aload_n 0, 1), (40, .getfield 22, 3), (43, .if_icmp .ge 47, 3), (46, .iconst 0, 1), (47, .istore_n 3, 1), (48, .iload_n 3, 1), (49, .aload_n 0, 1), (50, .getfield 18, 3), (53, .if_icmp .ge 31, 3), (56, .aload_n 0, 1), (57, .iload_n 3, 1), (58, .aload_n 0, 1), (59, .getfield 18, 3), (62, .iload_n 2, 1), (63, .imul, 1), (64, .iadd, 1), (65, .invokevirtual 45, 3), (68, .iload_n 1, 1), (69, .if_icmp .ne 9, 3), (72, .aload_n 0, 1), (73, .iload_n 3, 1), (74, .iload_n 2, 1), (75, .invokevirtual 108, 3), (78, .iinc 3 1, 3), (81, .goto (-33), 3), (84, .iinc 2 1, 3), (87, .goto (-49), 3), (90, .return_, 1)]
set_option maxRecDepth 100000 in
theorem T_X4_measure : ∀ q ∈ I_X4_measure, decode cX4_measure q.1 = .ok (q.2.1, q.2.2) := by decide +kernel
def f_X4_measure_j78 (x1 : Int32) (x2 : Int32) (x3 : Int32) (σ : St) : Option ((Int32 × St) ⊕ (St)) :=
  some (.inl (x3 + 1, σ))
set_option maxHeartbeats 4000000 in
set_option maxRecDepth 100000 in
theorem w_X4_measure_j78 (X : Cx g RX4 cX4_measure 4 none p s m args meth c) (x1 : Int32) (x2 : Int32) (x3 : Int32) (σ : St) {w : (Int32 × St) ⊕ (St)} (KB : ∀ (v0_ : Int32) (v1_ : St), w = .inl (v0_, v1_) → ∀ (H : Heap) (locs : List Loc) (ls : Array Slot), Wd g s v1_ H locs → lv_has ls 4 [(0, .ref (g.2.2 (89))), (1, .int (x1)), (2, .int (x2)), (3, .int (v0_))] → W p l e (rmm 2 43) s m args below meth c H locs 0 0 Q (F0 m 48 ls [])) (KX0 : ∀ (v : St), w = .inr v → ∀ (H : Heap) (locs : List Loc) (ls : Array Slot), Wd g s v H locs → lv_has ls 4 [(0, .ref (g.2.2 (89))), (1, .int (x1)), (2, .int (x2))] → W p l e (rmm 2 43) s m args below meth c H locs 0 0 Q (F0 m 84 ls [])) {H : Heap} {locs : List Loc} {ls : Array Slot} (Y : Wd g s σ H locs) (hl : lv_has ls 4 [(0, .ref (g.2.2 (89))), (1, .int (x1)), (2, .int (x2)), (3, .int (x3))]) (h : f_X4_measure_j78 x1 x2 x3 σ = some w) : W p l e (rmm 2 43) s m args below meth c H locs 0 0 Q (F0 m 78 ls []) := by
  unfold f_X4_measure_j78 at h
  refine lv_iinc (v := x3 + 1) (lv' := [(3, .int (x3 + 1)), (0, .ref (g.2.2 (89))), (1, .int (x1)), (2, .int (x2))]) X.1 X.2.1 (dk T_X4_measure 46 rfl) hl (k := 3) rfl (icx ic_1) (Nat.le_of_ble_eq_true rfl) rfl (fun ls hl => ?_)
  refine lv_goto (tgt := 48) X.1 X.2.1 (dk T_X4_measure 47 rfl) rfl ?_
  exact KB (x3 + 1) σ (Option.some.inj h).symm _ _ _ Y (lv_sub hl [1, 2, 3, 0] rfl)
def f_X4_measure_l48 (x1 : Int32) (x2 : Int32) (z : Int32 × St) : Option ((Int32 × St) ⊕ (St)) :=
  if (z.2 89 2) ≤ z.1 then some (.inr z.2) else (f_X4_labelAt (z.1 + ((z.2 89 2) * x2)) z.2).bind fun q3 => if q3 = x1 then (f_X4_measureCell z.1 x2 z.2).bind fun q5 => f_X4_measure_j78 x1 x2 z.1 q5 else f_X4_measure_j78 x1 x2 z.1 z.2
set_option maxHeartbeats 4000000 in
set_option maxRecDepth 100000 in
theorem w_X4_measure_l48 (X : Cx g RX4 cX4_measure 4 none p s m args meth c) (x1 : Int32) (x2 : Int32) (σ : St) {r : St} (KX0 : ∀ (v : St), r = v → ∀ (H : Heap) (locs : List Loc) (ls : Array Slot), Wd g s v H locs → lv_has ls 4 [(0, .ref (g.2.2 (89))), (1, .int (x1)), (2, .int (x2))] → W p l e (rmm 2 43) s m args below meth c H locs 0 0 Q (F0 m 84 ls [])) : ∀ (n : Nat) (z : Int32 × St) {H : Heap} {locs : List Loc} {ls : Array Slot}, Wd g s z.2 H locs → lv_has ls 4 [(0, .ref (g.2.2 (89))), (1, .int (x1)), (2, .int (x2)), (3, .int (z.1))] → lp (f_X4_measure_l48 x1 x2) n z = some r → W p l e (rmm 2 43) s m args below meth c H locs 0 0 Q (F0 m 48 ls []) := by
  intro n
  induction n with
  | zero => intro z H locs ls Y hl h; cases h
  | succ n ih =>
    intro z H locs ls Y hl h
    obtain ⟨w, h, hw⟩ := lps h
    have KB : ∀ (v0_ : Int32) (v1_ : St), w = .inl (v0_, v1_) → ∀ (H : Heap) (locs : List Loc) (ls : Array Slot), Wd g s v1_ H locs → lv_has ls 4 [(0, .ref (g.2.2 (89))), (1, .int (x1)), (2, .int (x2)), (3, .int (v0_))] → W p l e (rmm 2 43) s m args below meth c H locs 0 0 Q (F0 m 48 ls []) := fun v0_ v1_ e H locs ls Y hl => ih (v0_, v1_) Y hl (lpl hw e)
    have KX0 := fun (v : St) (e : w = .inr v) => KX0 v (lpr hw e)
    unfold f_X4_measure_l48 at h
    refine lv_iload_n X.1 X.2.1 (dk T_X4_measure 28 rfl) rfl (lv_at hl 3 rfl) ?_
    refine lv_aload_n X.1 X.2.1 (dk T_X4_measure 29 rfl) rfl (lv_at hl 0 rfl) ?_
    refine gg X Y fl_X4_18 rfl rfl (dk T_X4_measure 30 rfl) ?_
    refine lv_icmp_ge (tgt := 84) X.1 X.2.1 (dk T_X4_measure 31 rfl) rfl (fun c2 => ?_) (fun c2 => ?_)
    · replace h := ipos c2 h
      exact KX0 z.2 (Option.some.inj h).symm _ _ _ Y (lv_sub hl [0, 1, 2] rfl)
    · replace h := ineg c2 h
      refine lv_aload_n X.1 X.2.1 (dk T_X4_measure 32 rfl) rfl (lv_at hl 0 rfl) ?_
      refine lv_iload_n X.1 X.2.1 (dk T_X4_measure 33 rfl) rfl (lv_at hl 3 rfl) ?_
      refine lv_aload_n X.1 X.2.1 (dk T_X4_measure 34 rfl) rfl (lv_at hl 0 rfl) ?_
      refine gg X Y fl_X4_18 rfl rfl (dk T_X4_measure 35 rfl) ?_
      refine lv_iload_n X.1 X.2.1 (dk T_X4_measure 36 rfl) rfl (lv_at hl 2 rfl) ?_
      refine lv_imul X.1 X.2.1 (dk T_X4_measure 37 rfl) ?_
      refine lv_iadd X.1 X.2.1 (dk T_X4_measure 38 rfl) ?_
      obtain ⟨q3, hq3, h⟩ := bs h
      refine gvI (rest := []) X Y (c_X4_labelAt (z.1 + ((z.2 89 2) * x2)) z.2 hq3) cb_X4_45 rfl hl.1 rfl rfl (Nat.le_of_ble_eq_true rfl) ⟨Nat.le_of_ble_eq_true rfl, Nat.le_of_ble_eq_true rfl⟩ (dk T_X4_measure 39 rfl) (fun H locs Y => ?_)
      refine lv_iload_n X.1 X.2.1 (dk T_X4_measure 40 rfl) rfl (lv_at hl 1 rfl) ?_
      refine lv_icmp_ne (tgt := 78) X.1 X.2.1 (dk T_X4_measure 41 rfl) rfl (fun c4 => ?_) (fun c4 => ?_)
      · replace h := ineg c4 h
        exact w_X4_measure_j78 X x1 x2 z.1 z.2 KB KX0 Y (lv_sub hl [0, 1, 2, 3] rfl) h
      · replace h := ipos c4 h
        refine lv_aload_n X.1 X.2.1 (dk T_X4_measure 42 rfl) rfl (lv_at hl 0 rfl) ?_
        refine lv_iload_n X.1 X.2.1 (dk T_X4_measure 43 rfl) rfl (lv_at hl 3 rfl) ?_
        refine lv_iload_n X.1 X.2.1 (dk T_X4_measure 44 rfl) rfl (lv_at hl 2 rfl) ?_
        obtain ⟨q5, hq5, h⟩ := bs h
        refine gvV (rest := []) X Y (c_X4_measureCell z.1 x2 z.2 hq5) cb_X4_108 rfl hl.1 rfl rfl (Nat.le_of_ble_eq_true rfl) ⟨Nat.le_of_ble_eq_true rfl, Nat.le_of_ble_eq_true rfl⟩ (dk T_X4_measure 45 rfl) (fun H locs Y => ?_)
        exact w_X4_measure_j78 X x1 x2 z.1 q5 KB KX0 Y (lv_sub hl [0, 1, 2, 3] rfl) h
def f_X4_measure_l38 (x1 : Int32) (z : Int32 × St) : Option ((Int32 × St) ⊕ (St)) :=
  if (z.2 89 3) ≤ z.1 then some (.inr z.2) else (lp (f_X4_measure_l48 x1 z.1) FU (0, z.2)).bind fun q6 => some (.inl (z.1 + 1, q6))
set_option maxHeartbeats 4000000 in
set_option maxRecDepth 100000 in
theorem w_X4_measure_l38 (X : Cx g RX4 cX4_measure 4 none p s m args meth c) (x1 : Int32) (σ : St) {r : St} (KX0 : ∀ (v : St), r = v → ∀ (H : Heap) (locs : List Loc) (ls : Array Slot), Wd g s v H locs → lv_has ls 4 [] → W p l e (rmm 2 43) s m args below meth c H locs 0 0 Q (F0 m 90 ls [])) : ∀ (n : Nat) (z : Int32 × St) {H : Heap} {locs : List Loc} {ls : Array Slot}, Wd g s z.2 H locs → lv_has ls 4 [(0, .ref (g.2.2 (89))), (1, .int (x1)), (2, .int (z.1))] → lp (f_X4_measure_l38 x1) n z = some r → W p l e (rmm 2 43) s m args below meth c H locs 0 0 Q (F0 m 38 ls []) := by
  intro n
  induction n with
  | zero => intro z H locs ls Y hl h; cases h
  | succ n ih =>
    intro z H locs ls Y hl h
    obtain ⟨w, h, hw⟩ := lps h
    have KB : ∀ (v0_ : Int32) (v1_ : St), w = .inl (v0_, v1_) → ∀ (H : Heap) (locs : List Loc) (ls : Array Slot), Wd g s v1_ H locs → lv_has ls 4 [(0, .ref (g.2.2 (89))), (1, .int (x1)), (2, .int (v0_))] → W p l e (rmm 2 43) s m args below meth c H locs 0 0 Q (F0 m 38 ls []) := fun v0_ v1_ e H locs ls Y hl => ih (v0_, v1_) Y hl (lpl hw e)
    have KX0 := fun (v : St) (e : w = .inr v) => KX0 v (lpr hw e)
    unfold f_X4_measure_l38 at h
    refine lv_iload_n X.1 X.2.1 (dk T_X4_measure 22 rfl) rfl (lv_at hl 2 rfl) ?_
    refine lv_aload_n X.1 X.2.1 (dk T_X4_measure 23 rfl) rfl (lv_at hl 0 rfl) ?_
    refine gg X Y fl_X4_22 rfl rfl (dk T_X4_measure 24 rfl) ?_
    refine lv_icmp_ge (tgt := 90) X.1 X.2.1 (dk T_X4_measure 25 rfl) rfl (fun c1 => ?_) (fun c1 => ?_)
    · replace h := ipos c1 h
      exact KX0 z.2 (Option.some.inj h).symm _ _ _ Y (lv_sub hl [] rfl)
    · replace h := ineg c1 h
      refine lv_iconst (v := 0) X.1 X.2.1 (dk T_X4_measure 26 rfl) ic_0 ?_
      refine lv_istore_n (lv' := [(3, .int (0)), (0, .ref (g.2.2 (89))), (1, .int (x1)), (2, .int (z.1))]) X.1 X.2.1 (dk T_X4_measure 27 rfl) rfl hl (Nat.le_of_ble_eq_true rfl) rfl (fun ls hl => ?_)
      obtain ⟨q6, hq6, h⟩ := bs h
      refine w_X4_measure_l48 X x1 z.1 σ (fun v e H locs ls Y hl => ?_) FU (0, z.2) Y (lv_sub hl [1, 2, 3, 0] rfl) hq6
      · obtain rfl := e
        refine lv_iinc (v := z.1 + 1) (lv' := [(2, .int (z.1 + 1)), (0, .ref (g.2.2 (89))), (1, .int (x1))]) X.1 X.2.1 (dk T_X4_measure 48 rfl) hl (k := 2) rfl (icx ic_1) (Nat.le_of_ble_eq_true rfl) rfl (fun ls hl => ?_)
        refine lv_goto (tgt := 38) X.1 X.2.1 (dk T_X4_measure 49 rfl) rfl ?_
        exact KB (z.1 + 1) q6 (Option.some.inj h).symm _ _ _ Y (lv_sub hl [1, 2, 0] rfl)
def f_X4_measure_0 (x1 : Int32) (σ : St) : Option (St) :=
  (lp (f_X4_measure_l38 x1) FU (0, up (up (up (up (up (up σ 89 5 0) 89 6 (-1)) 89 7 (up (up σ 89 5 0) 89 6 (-1) 89 2)) 89 8 (-1)) 89 9 (up (up (up (up σ 89 5 0) 89 6 (-1)) 89 7 (up (up σ 89 5 0) 89 6 (-1) 89 2)) 89 8 (-1) 89 3)) 89 10 (-1))).bind fun q7 => some q7
set_option maxHeartbeats 4000000 in
set_option maxRecDepth 100000 in
theorem w_X4_measure_0 (X : Cx g RX4 cX4_measure 4 none p s m args meth c) (x1 : Int32) (σ : St) {w : St} (KR : ∀ (H : Heap) (locs : List Loc) (ls : Array Slot) (pc : Nat), Wd g s w H locs → decode cX4_measure pc = .ok (.return_, 1) → W p l e (rmm 2 43) s m args below meth c H locs 0 0 Q (F0 m pc ls [])) {H : Heap} {locs : List Loc} {ls : Array Slot} (Y : Wd g s σ H locs) (hl : lv_has ls 4 [(0, .ref (g.2.2 (89))), (1, .int (x1))]) (h : f_X4_measure_0 x1 σ = some w) : W p l e (rmm 2 43) s m args below meth c H locs 0 0 Q (F0 m 0 ls []) := by
  unfold f_X4_measure_0 at h
  refine lv_aload_n X.1 X.2.1 (dk T_X4_measure 0 rfl) rfl (lv_at hl 0 rfl) ?_
  refine lv_iconst (v := 0) X.1 X.2.1 (dk T_X4_measure 1 rfl) ic_0 ?_
  refine gp X Y fp_X4_28 rfl (nar_int _) (dk T_X4_measure 2 rfl) (fun H locs Y => ?_)
  refine lv_aload_n X.1 X.2.1 (dk T_X4_measure 3 rfl) rfl (lv_at hl 0 rfl) ?_
  refine lv_iconst (v := (-1)) X.1 X.2.1 (dk T_X4_measure 4 rfl) ic_m1 ?_
  refine gp X Y fp_X4_93 rfl (nar_int _) (dk T_X4_measure 5 rfl) (fun H locs Y => ?_)
  refine lv_aload_n X.1 X.2.1 (dk T_X4_measure 6 rfl) rfl (lv_at hl 0 rfl) ?_
  refine lv_aload_n X.1 X.2.1 (dk T_X4_measure 7 rfl) rfl (lv_at hl 0 rfl) ?_
  refine gg X Y fl_X4_18 rfl rfl (dk T_X4_measure 8 rfl) ?_
  refine gp X Y fp_X4_96 rfl (nar_int _) (dk T_X4_measure 9 rfl) (fun H locs Y => ?_)
  refine lv_aload_n X.1 X.2.1 (dk T_X4_measure 10 rfl) rfl (lv_at hl 0 rfl) ?_
  refine lv_iconst (v := (-1)) X.1 X.2.1 (dk T_X4_measure 11 rfl) ic_m1 ?_
  refine gp X Y fp_X4_99 rfl (nar_int _) (dk T_X4_measure 12 rfl) (fun H locs Y => ?_)
  refine lv_aload_n X.1 X.2.1 (dk T_X4_measure 13 rfl) rfl (lv_at hl 0 rfl) ?_
  refine lv_aload_n X.1 X.2.1 (dk T_X4_measure 14 rfl) rfl (lv_at hl 0 rfl) ?_
  refine gg X Y fl_X4_22 rfl rfl (dk T_X4_measure 15 rfl) ?_
  refine gp X Y fp_X4_102 rfl (nar_int _) (dk T_X4_measure 16 rfl) (fun H locs Y => ?_)
  refine lv_aload_n X.1 X.2.1 (dk T_X4_measure 17 rfl) rfl (lv_at hl 0 rfl) ?_
  refine lv_iconst (v := (-1)) X.1 X.2.1 (dk T_X4_measure 18 rfl) ic_m1 ?_
  refine gp X Y fp_X4_105 rfl (nar_int _) (dk T_X4_measure 19 rfl) (fun H locs Y => ?_)
  refine lv_iconst (v := 0) X.1 X.2.1 (dk T_X4_measure 20 rfl) ic_0 ?_
  refine lv_istore_n (lv' := [(2, .int (0)), (0, .ref (g.2.2 (89))), (1, .int (x1))]) X.1 X.2.1 (dk T_X4_measure 21 rfl) rfl hl (Nat.le_of_ble_eq_true rfl) rfl (fun ls hl => ?_)
  obtain ⟨q7, hq7, h⟩ := bs h
  refine w_X4_measure_l38 X x1 σ (fun v e H locs ls Y hl => ?_) FU (0, up (up (up (up (up (up σ 89 5 0) 89 6 (-1)) 89 7 (up (up σ 89 5 0) 89 6 (-1) 89 2)) 89 8 (-1)) 89 9 (up (up (up (up σ 89 5 0) 89 6 (-1)) 89 7 (up (up σ 89 5 0) 89 6 (-1) 89 2)) 89 8 (-1) 89 3)) 89 10 (-1)) Y (lv_sub hl [1, 2, 0] rfl) hq7
  · obtain rfl := e
    obtain rfl := Option.some.inj h
    exact KR _ _ _ _ Y (dk T_X4_measure 50 rfl)
def f_X4_measure (x1 : Int32) (σ : St) : Option (St) := f_X4_measure_0 x1 σ
set_option maxHeartbeats 4000000 in
set_option maxRecDepth 100000 in
theorem c_X4_measure {l : Launch} {g : Geo} (x1 : Int32) (σ : St) {w : St} (h : f_X4_measure x1 σ = some w) : CtV l yX4_measure cX4_measure 4 none (rmm 2 43) g [.ref (g.2.2 (89)), .int (x1)] σ w := enV (by decide) rfl (Nat.le_of_ble_eq_true rfl) (fun p e s m args below meth c Q X Y ls hl KR => w_X4_measure_0 X x1 σ KR Y hl h)
def I_X4_cellsMeasured : List (Nat × Instr × Nat) := [(0, .aload_n 0, 1), (1, .getfield 28, 3), (4, .ireturn, 1)]
set_option maxRecDepth 100000 in
theorem T_X4_cellsMeasured : ∀ q ∈ I_X4_cellsMeasured, decode cX4_cellsMeasured q.1 = .ok (q.2.1, q.2.2) := by decide +kernel
def f_X4_cellsMeasured_0 (σ : St) : Option (Int32) :=
  some (σ 89 5)
set_option maxHeartbeats 4000000 in
set_option maxRecDepth 100000 in
theorem w_X4_cellsMeasured_0 (X : Cx g RX4 cX4_cellsMeasured 1 (some .int) p s m args meth c) (σ : St) {w : Int32} (KR : ∀ (H : Heap) (locs : List Loc) (ls : Array Slot) (pc : Nat), Wd g s σ H locs → decode cX4_cellsMeasured pc = .ok (.ireturn, 1) → W p l e (rmm 0 0) s m args below meth c H locs 0 0 Q (F0 m pc ls [.int (w)])) {H : Heap} {locs : List Loc} {ls : Array Slot} (Y : Wd g s σ H locs) (hl : lv_has ls 1 [(0, .ref (g.2.2 (89)))]) (h : f_X4_cellsMeasured_0 σ = some w) : W p l e (rmm 0 0) s m args below meth c H locs 0 0 Q (F0 m 0 ls []) := by
  unfold f_X4_cellsMeasured_0 at h
  refine lv_aload_n X.1 X.2.1 (dk T_X4_cellsMeasured 0 rfl) rfl (lv_at hl 0 rfl) ?_
  refine gg X Y fl_X4_28 rfl rfl (dk T_X4_cellsMeasured 1 rfl) ?_
  obtain rfl := Option.some.inj h
  exact KR _ _ _ _ Y (dk T_X4_cellsMeasured 2 rfl)
def f_X4_cellsMeasured (σ : St) : Option (Int32) := f_X4_cellsMeasured_0 σ
set_option maxHeartbeats 4000000 in
set_option maxRecDepth 100000 in
theorem c_X4_cellsMeasured {l : Launch} {g : Geo} (σ : St) {w : Int32} (h : f_X4_cellsMeasured σ = some w) : CtI l yX4_cellsMeasured cX4_cellsMeasured 1 (some .int) (rmm 0 0) g [.ref (g.2.2 (89))] σ w σ := enI .int (by decide) rfl rfl (Nat.le_of_ble_eq_true rfl) (fun p e s m args below meth c Q X Y ls hl KR => w_X4_cellsMeasured_0 X σ KR Y hl h)
def I_X4_lowestMeasured : List (Nat × Instr × Nat) := [(0, .aload_n 0, 1), (1, .getfield 93, 3), (4, .ireturn, 1)]
set_option maxRecDepth 100000 in
theorem T_X4_lowestMeasured : ∀ q ∈ I_X4_lowestMeasured, decode cX4_lowestMeasured q.1 = .ok (q.2.1, q.2.2) := by decide +kernel
def f_X4_lowestMeasured_0 (σ : St) : Option (Int32) :=
  some (σ 89 6)
set_option maxHeartbeats 4000000 in
set_option maxRecDepth 100000 in
theorem w_X4_lowestMeasured_0 (X : Cx g RX4 cX4_lowestMeasured 1 (some .int) p s m args meth c) (σ : St) {w : Int32} (KR : ∀ (H : Heap) (locs : List Loc) (ls : Array Slot) (pc : Nat), Wd g s σ H locs → decode cX4_lowestMeasured pc = .ok (.ireturn, 1) → W p l e (rmm 0 0) s m args below meth c H locs 0 0 Q (F0 m pc ls [.int (w)])) {H : Heap} {locs : List Loc} {ls : Array Slot} (Y : Wd g s σ H locs) (hl : lv_has ls 1 [(0, .ref (g.2.2 (89)))]) (h : f_X4_lowestMeasured_0 σ = some w) : W p l e (rmm 0 0) s m args below meth c H locs 0 0 Q (F0 m 0 ls []) := by
  unfold f_X4_lowestMeasured_0 at h
  refine lv_aload_n X.1 X.2.1 (dk T_X4_lowestMeasured 0 rfl) rfl (lv_at hl 0 rfl) ?_
  refine gg X Y fl_X4_93 rfl rfl (dk T_X4_lowestMeasured 1 rfl) ?_
  obtain rfl := Option.some.inj h
  exact KR _ _ _ _ Y (dk T_X4_lowestMeasured 2 rfl)
def f_X4_lowestMeasured (σ : St) : Option (Int32) := f_X4_lowestMeasured_0 σ
set_option maxHeartbeats 4000000 in
set_option maxRecDepth 100000 in
theorem c_X4_lowestMeasured {l : Launch} {g : Geo} (σ : St) {w : Int32} (h : f_X4_lowestMeasured σ = some w) : CtI l yX4_lowestMeasured cX4_lowestMeasured 1 (some .int) (rmm 0 0) g [.ref (g.2.2 (89))] σ w σ := enI .int (by decide) rfl rfl (Nat.le_of_ble_eq_true rfl) (fun p e s m args below meth c Q X Y ls hl KR => w_X4_lowestMeasured_0 X σ KR Y hl h)
def I_X4_columnsMeasured : List (Nat × Instr × Nat) := [(0, .aload_n 0, 1), (1, .getfield 99, 3), (4, .aload_n 0, 1), (5, .getfield 96, 3), (8, .isub, 1), (9, .iconst 1, 1), (10, .iadd, 1), (11, .ireturn, 1)]
set_option maxRecDepth 100000 in
theorem T_X4_columnsMeasured : ∀ q ∈ I_X4_columnsMeasured, decode cX4_columnsMeasured q.1 = .ok (q.2.1, q.2.2) := by decide +kernel
def f_X4_columnsMeasured_0 (σ : St) : Option (Int32) :=
  some (((σ 89 8) - (σ 89 7)) + 1)
set_option maxHeartbeats 4000000 in
set_option maxRecDepth 100000 in
theorem w_X4_columnsMeasured_0 (X : Cx g RX4 cX4_columnsMeasured 1 (some .int) p s m args meth c) (σ : St) {w : Int32} (KR : ∀ (H : Heap) (locs : List Loc) (ls : Array Slot) (pc : Nat), Wd g s σ H locs → decode cX4_columnsMeasured pc = .ok (.ireturn, 1) → W p l e (rmm 0 0) s m args below meth c H locs 0 0 Q (F0 m pc ls [.int (w)])) {H : Heap} {locs : List Loc} {ls : Array Slot} (Y : Wd g s σ H locs) (hl : lv_has ls 1 [(0, .ref (g.2.2 (89)))]) (h : f_X4_columnsMeasured_0 σ = some w) : W p l e (rmm 0 0) s m args below meth c H locs 0 0 Q (F0 m 0 ls []) := by
  unfold f_X4_columnsMeasured_0 at h
  refine lv_aload_n X.1 X.2.1 (dk T_X4_columnsMeasured 0 rfl) rfl (lv_at hl 0 rfl) ?_
  refine gg X Y fl_X4_99 rfl rfl (dk T_X4_columnsMeasured 1 rfl) ?_
  refine lv_aload_n X.1 X.2.1 (dk T_X4_columnsMeasured 2 rfl) rfl (lv_at hl 0 rfl) ?_
  refine gg X Y fl_X4_96 rfl rfl (dk T_X4_columnsMeasured 3 rfl) ?_
  refine lv_isub X.1 X.2.1 (dk T_X4_columnsMeasured 4 rfl) ?_
  refine lv_iconst (v := 1) X.1 X.2.1 (dk T_X4_columnsMeasured 5 rfl) ic_1 ?_
  refine lv_iadd X.1 X.2.1 (dk T_X4_columnsMeasured 6 rfl) ?_
  obtain rfl := Option.some.inj h
  exact KR _ _ _ _ Y (dk T_X4_columnsMeasured 7 rfl)
def f_X4_columnsMeasured (σ : St) : Option (Int32) := f_X4_columnsMeasured_0 σ
set_option maxHeartbeats 4000000 in
set_option maxRecDepth 100000 in
theorem c_X4_columnsMeasured {l : Launch} {g : Geo} (σ : St) {w : Int32} (h : f_X4_columnsMeasured σ = some w) : CtI l yX4_columnsMeasured cX4_columnsMeasured 1 (some .int) (rmm 0 0) g [.ref (g.2.2 (89))] σ w σ := enI .int (by decide) rfl rfl (Nat.le_of_ble_eq_true rfl) (fun p e s m args below meth c Q X Y ls hl KR => w_X4_columnsMeasured_0 X σ KR Y hl h)
def I_X4_rowsMeasured : List (Nat × Instr × Nat) := [(0, .aload_n 0, 1), (1, .getfield 105, 3), (4, .aload_n 0, 1), (5, .getfield 102, 3), (8, .isub, 1), (9, .iconst 1, 1), (10, .iadd, 1), (11, .ireturn, 1)]
set_option maxRecDepth 100000 in
theorem T_X4_rowsMeasured : ∀ q ∈ I_X4_rowsMeasured, decode cX4_rowsMeasured q.1 = .ok (q.2.1, q.2.2) := by decide +kernel
def f_X4_rowsMeasured_0 (σ : St) : Option (Int32) :=
  some (((σ 89 10) - (σ 89 9)) + 1)
set_option maxHeartbeats 4000000 in
set_option maxRecDepth 100000 in
theorem w_X4_rowsMeasured_0 (X : Cx g RX4 cX4_rowsMeasured 1 (some .int) p s m args meth c) (σ : St) {w : Int32} (KR : ∀ (H : Heap) (locs : List Loc) (ls : Array Slot) (pc : Nat), Wd g s σ H locs → decode cX4_rowsMeasured pc = .ok (.ireturn, 1) → W p l e (rmm 0 0) s m args below meth c H locs 0 0 Q (F0 m pc ls [.int (w)])) {H : Heap} {locs : List Loc} {ls : Array Slot} (Y : Wd g s σ H locs) (hl : lv_has ls 1 [(0, .ref (g.2.2 (89)))]) (h : f_X4_rowsMeasured_0 σ = some w) : W p l e (rmm 0 0) s m args below meth c H locs 0 0 Q (F0 m 0 ls []) := by
  unfold f_X4_rowsMeasured_0 at h
  refine lv_aload_n X.1 X.2.1 (dk T_X4_rowsMeasured 0 rfl) rfl (lv_at hl 0 rfl) ?_
  refine gg X Y fl_X4_105 rfl rfl (dk T_X4_rowsMeasured 1 rfl) ?_
  refine lv_aload_n X.1 X.2.1 (dk T_X4_rowsMeasured 2 rfl) rfl (lv_at hl 0 rfl) ?_
  refine gg X Y fl_X4_102 rfl rfl (dk T_X4_rowsMeasured 3 rfl) ?_
  refine lv_isub X.1 X.2.1 (dk T_X4_rowsMeasured 4 rfl) ?_
  refine lv_iconst (v := 1) X.1 X.2.1 (dk T_X4_rowsMeasured 5 rfl) ic_1 ?_
  refine lv_iadd X.1 X.2.1 (dk T_X4_rowsMeasured 6 rfl) ?_
  obtain rfl := Option.some.inj h
  exact KR _ _ _ _ Y (dk T_X4_rowsMeasured 7 rfl)
def f_X4_rowsMeasured (σ : St) : Option (Int32) := f_X4_rowsMeasured_0 σ
set_option maxHeartbeats 4000000 in
set_option maxRecDepth 100000 in
theorem c_X4_rowsMeasured {l : Launch} {g : Geo} (σ : St) {w : Int32} (h : f_X4_rowsMeasured σ = some w) : CtI l yX4_rowsMeasured cX4_rowsMeasured 1 (some .int) (rmm 0 0) g [.ref (g.2.2 (89))] σ w σ := enI .int (by decide) rfl rfl (Nat.le_of_ble_eq_true rfl) (fun p e s m args below meth c Q X Y ls hl KR => w_X4_rowsMeasured_0 X σ KR Y hl h)
def I_X4_cellsToTheRight : List (Nat × Instr × Nat) := [(0, .iload_n 2, 1), (1, .istore 4, 2), (3, .iload 4, 2), (5, .aload_n 0, 1), (6, .getfield 18, 3), (9, .if_icmp .ge 26, 3), (12, .aload_n 0, 1), (13, .iload 4, 2), (15, .aload_n 0, 1), (16, .getfield 18, 3), (19, .iload_n 3, 1), (20, .imul, 1), (21, .iadd, 1), (22, .invokevirtual 45, 3), (25, .iload_n 1, 1), (26, .if_icmp .ne 9, 3), (29, .iinc 4 1, 3), (32, .goto (-29), 3), (35, .iload 4, 2), (37, .iload_n 2, 1), (38, .isub, 1), (39, .ireturn, 1)]
set_option maxRecDepth 100000 in
theorem T_X4_cellsToTheRight : ∀ q ∈ I_X4_cellsToTheRight, decode cX4_cellsToTheRight q.1 = .ok (q.2.1, q.2.2) := by decide +kernel
def f_X4_cellsToTheRight_l3 (x1 : Int32) (x2 : Int32) (x3 : Int32) (σ : St) (z : Int32) : Option ((Int32) ⊕ (Int32)) :=
  if (σ 89 2) ≤ z then some (.inr z) else (f_X4_labelAt (z + ((σ 89 2) * x3)) σ).bind fun q2 => if q2 = x1 then some (.inl (z + 1)) else some (.inr z)
set_option maxHeartbeats 4000000 in
set_option maxRecDepth 100000 in
theorem w_X4_cellsToTheRight_l3 (X : Cx g RX4 cX4_cellsToTheRight 5 (some .int) p s m args meth c) (x1 : Int32) (x2 : Int32) (x3 : Int32) (σ : St) {r : Int32} (KX0 : ∀ (v : Int32), r = v → ∀ (H : Heap) (locs : List Loc) (ls : Array Slot), Wd g s σ H locs → lv_has ls 5 [(2, .int (x2)), (4, .int (v))] → W p l e (rmm 1 21) s m args below meth c H locs 0 0 Q (F0 m 35 ls [])) : ∀ (n : Nat) (z : Int32) {H : Heap} {locs : List Loc} {ls : Array Slot}, Wd g s σ H locs → lv_has ls 5 [(0, .ref (g.2.2 (89))), (1, .int (x1)), (2, .int (x2)), (3, .int (x3)), (4, .int (z))] → lp (f_X4_cellsToTheRight_l3 x1 x2 x3 σ) n z = some r → W p l e (rmm 1 21) s m args below meth c H locs 0 0 Q (F0 m 3 ls []) := by
  intro n
  induction n with
  | zero => intro z H locs ls Y hl h; cases h
  | succ n ih =>
    intro z H locs ls Y hl h
    obtain ⟨w, h, hw⟩ := lps h
    have KB : ∀ (v : Int32), w = .inl v → ∀ (H : Heap) (locs : List Loc) (ls : Array Slot), Wd g s σ H locs → lv_has ls 5 [(0, .ref (g.2.2 (89))), (1, .int (x1)), (2, .int (x2)), (3, .int (x3)), (4, .int (v))] → W p l e (rmm 1 21) s m args below meth c H locs 0 0 Q (F0 m 3 ls []) := fun v e H locs ls Y hl => ih v Y hl (lpl hw e)
    have KX0 := fun (v : Int32) (e : w = .inr v) => KX0 v (lpr hw e)
    unfold f_X4_cellsToTheRight_l3 at h
    refine lv_iload X.1 X.2.1 (dk T_X4_cellsToTheRight 2 rfl) (lv_at hl 4 rfl) ?_
    refine lv_aload_n X.1 X.2.1 (dk T_X4_cellsToTheRight 3 rfl) rfl (lv_at hl 0 rfl) ?_
    refine gg X Y fl_X4_18 rfl rfl (dk T_X4_cellsToTheRight 4 rfl) ?_
    refine lv_icmp_ge (tgt := 35) X.1 X.2.1 (dk T_X4_cellsToTheRight 5 rfl) rfl (fun c1 => ?_) (fun c1 => ?_)
    · replace h := ipos c1 h
      exact KX0 z (Option.some.inj h).symm _ _ _ Y (lv_sub hl [2, 4] rfl)
    · replace h := ineg c1 h
      refine lv_aload_n X.1 X.2.1 (dk T_X4_cellsToTheRight 6 rfl) rfl (lv_at hl 0 rfl) ?_
      refine lv_iload X.1 X.2.1 (dk T_X4_cellsToTheRight 7 rfl) (lv_at hl 4 rfl) ?_
      refine lv_aload_n X.1 X.2.1 (dk T_X4_cellsToTheRight 8 rfl) rfl (lv_at hl 0 rfl) ?_
      refine gg X Y fl_X4_18 rfl rfl (dk T_X4_cellsToTheRight 9 rfl) ?_
      refine lv_iload_n X.1 X.2.1 (dk T_X4_cellsToTheRight 10 rfl) rfl (lv_at hl 3 rfl) ?_
      refine lv_imul X.1 X.2.1 (dk T_X4_cellsToTheRight 11 rfl) ?_
      refine lv_iadd X.1 X.2.1 (dk T_X4_cellsToTheRight 12 rfl) ?_
      obtain ⟨q2, hq2, h⟩ := bs h
      refine gvI (rest := []) X Y (c_X4_labelAt (z + ((σ 89 2) * x3)) σ hq2) cb_X4_45 rfl hl.1 rfl rfl (Nat.le_of_ble_eq_true rfl) ⟨Nat.le_of_ble_eq_true rfl, Nat.le_of_ble_eq_true rfl⟩ (dk T_X4_cellsToTheRight 13 rfl) (fun H locs Y => ?_)
      refine lv_iload_n X.1 X.2.1 (dk T_X4_cellsToTheRight 14 rfl) rfl (lv_at hl 1 rfl) ?_
      refine lv_icmp_ne (tgt := 35) X.1 X.2.1 (dk T_X4_cellsToTheRight 15 rfl) rfl (fun c3 => ?_) (fun c3 => ?_)
      · replace h := ineg c3 h
        exact KX0 z (Option.some.inj h).symm _ _ _ Y (lv_sub hl [2, 4] rfl)
      · replace h := ipos c3 h
        refine lv_iinc (v := z + 1) (lv' := [(4, .int (z + 1)), (0, .ref (g.2.2 (89))), (1, .int (x1)), (2, .int (x2)), (3, .int (x3))]) X.1 X.2.1 (dk T_X4_cellsToTheRight 16 rfl) hl (k := 4) rfl (icx ic_1) (Nat.le_of_ble_eq_true rfl) rfl (fun ls hl => ?_)
        refine lv_goto (tgt := 3) X.1 X.2.1 (dk T_X4_cellsToTheRight 17 rfl) rfl ?_
        exact KB (z + 1) (Option.some.inj h).symm _ _ _ Y (lv_sub hl [1, 2, 3, 4, 0] rfl)
def f_X4_cellsToTheRight_j35 (x2 : Int32) (x4 : Int32) (σ : St) : Option (Int32) :=
  some (x4 - x2)
set_option maxHeartbeats 4000000 in
set_option maxRecDepth 100000 in
theorem w_X4_cellsToTheRight_j35 (X : Cx g RX4 cX4_cellsToTheRight 5 (some .int) p s m args meth c) (x2 : Int32) (x4 : Int32) (σ : St) {w : Int32} (KR : ∀ (H : Heap) (locs : List Loc) (ls : Array Slot) (pc : Nat), Wd g s σ H locs → decode cX4_cellsToTheRight pc = .ok (.ireturn, 1) → W p l e (rmm 1 21) s m args below meth c H locs 0 0 Q (F0 m pc ls [.int (w)])) {H : Heap} {locs : List Loc} {ls : Array Slot} (Y : Wd g s σ H locs) (hl : lv_has ls 5 [(2, .int (x2)), (4, .int (x4))]) (h : f_X4_cellsToTheRight_j35 x2 x4 σ = some w) : W p l e (rmm 1 21) s m args below meth c H locs 0 0 Q (F0 m 35 ls []) := by
  unfold f_X4_cellsToTheRight_j35 at h
  refine lv_iload X.1 X.2.1 (dk T_X4_cellsToTheRight 18 rfl) (lv_at hl 1 rfl) ?_
  refine lv_iload_n X.1 X.2.1 (dk T_X4_cellsToTheRight 19 rfl) rfl (lv_at hl 0 rfl) ?_
  refine lv_isub X.1 X.2.1 (dk T_X4_cellsToTheRight 20 rfl) ?_
  obtain rfl := Option.some.inj h
  exact KR _ _ _ _ Y (dk T_X4_cellsToTheRight 21 rfl)
def f_X4_cellsToTheRight_0 (x1 : Int32) (x2 : Int32) (x3 : Int32) (σ : St) : Option (Int32) :=
  (lp (f_X4_cellsToTheRight_l3 x1 x2 x3 σ) FU x2).bind fun q4 => f_X4_cellsToTheRight_j35 x2 q4 σ
set_option maxHeartbeats 4000000 in
set_option maxRecDepth 100000 in
theorem w_X4_cellsToTheRight_0 (X : Cx g RX4 cX4_cellsToTheRight 5 (some .int) p s m args meth c) (x1 : Int32) (x2 : Int32) (x3 : Int32) (σ : St) {w : Int32} (KR : ∀ (H : Heap) (locs : List Loc) (ls : Array Slot) (pc : Nat), Wd g s σ H locs → decode cX4_cellsToTheRight pc = .ok (.ireturn, 1) → W p l e (rmm 1 21) s m args below meth c H locs 0 0 Q (F0 m pc ls [.int (w)])) {H : Heap} {locs : List Loc} {ls : Array Slot} (Y : Wd g s σ H locs) (hl : lv_has ls 5 [(0, .ref (g.2.2 (89))), (1, .int (x1)), (2, .int (x2)), (3, .int (x3))]) (h : f_X4_cellsToTheRight_0 x1 x2 x3 σ = some w) : W p l e (rmm 1 21) s m args below meth c H locs 0 0 Q (F0 m 0 ls []) := by
  unfold f_X4_cellsToTheRight_0 at h
  refine lv_iload_n X.1 X.2.1 (dk T_X4_cellsToTheRight 0 rfl) rfl (lv_at hl 2 rfl) ?_
  refine lv_istore (lv' := [(4, .int (x2)), (0, .ref (g.2.2 (89))), (1, .int (x1)), (2, .int (x2)), (3, .int (x3))]) X.1 X.2.1 (dk T_X4_cellsToTheRight 1 rfl) hl (Nat.le_of_ble_eq_true rfl) rfl (fun ls hl => ?_)
  obtain ⟨q4, hq4, h⟩ := bs h
  refine w_X4_cellsToTheRight_l3 X x1 x2 x3 σ (fun v e H locs ls Y hl => ?_) FU x2 Y (lv_sub hl [1, 2, 3, 4, 0] rfl) hq4
  · obtain rfl := e
    exact w_X4_cellsToTheRight_j35 X x2 q4 σ KR Y (lv_sub hl [0, 1] rfl) h
def f_X4_cellsToTheRight (x1 : Int32) (x2 : Int32) (x3 : Int32) (σ : St) : Option (Int32) := f_X4_cellsToTheRight_0 x1 x2 x3 σ
set_option maxHeartbeats 4000000 in
set_option maxRecDepth 100000 in
theorem c_X4_cellsToTheRight {l : Launch} {g : Geo} (x1 : Int32) (x2 : Int32) (x3 : Int32) (σ : St) {w : Int32} (h : f_X4_cellsToTheRight x1 x2 x3 σ = some w) : CtI l yX4_cellsToTheRight cX4_cellsToTheRight 5 (some .int) (rmm 1 21) g [.ref (g.2.2 (89)), .int (x1), .int (x2), .int (x3)] σ w σ := enI .int (by decide) rfl rfl (Nat.le_of_ble_eq_true rfl) (fun p e s m args below meth c Q X Y ls hl KR => w_X4_cellsToTheRight_0 X x1 x2 x3 σ KR Y hl h)
def I_X4_greatestFrom : List (Nat × Instr × Nat) := [(0, .iconst 0, 1), (1, .istore 4, 2), (3, .aload_n 0, 1), (4, .getfield 18, 3), (7, .istore 5, 2), (9, .iload_n 3, 1), (10, .istore 6, 2), (12, .iload 6, 2), (14, .aload_n 0, 1), (15, .getfield 22, 3), (18, .if_icmp .ge 45, 3), (21, .iload 5, 2), (23, .ifCond .le 40, 3), (26, .iload 5, 2), (28, .aload_n 0, 1), (29, .iload_n 1, 1), (30, .iload_n 2, 1), (31, .iload 6, 2), (33, .invokevirtual 123, 3), (36, .invokestatic 111, 3), (39, .istore 5, 2), (41, .iload 4, 2), (43, .iload 5, 2), (45, .iload 6, 2), (47, .iload_n 3, 1), (48, .isub, 1), (49, .iconst 1, 1), (50, .iadd, 1), (51, .imul, 1), (52, .invokestatic 116, 3), (55, .istore 4, 2), (57, .iinc 6 1, 3), (60, .goto (-48), 3), (63, .iload 4, 2), (65, .ireturn, 1)]
set_option maxRecDepth 100000 in
theorem T_X4_greatestFrom : ∀ q ∈ I_X4_greatestFrom, decode cX4_greatestFrom q.1 = .ok (q.2.1, q.2.2) := by decide +kernel
def f_X4_greatestFrom_l12 (x1 : Int32) (x2 : Int32) (x3 : Int32) (σ : St) (z : Int32 × Int32 × Int32) : Option ((Int32 × Int32 × Int32) ⊕ (Int32)) :=
  if (σ 89 3) ≤ z.2.2 then some (.inr z.1) else if z.2.1 ≤ 0 then some (.inr z.1) else (f_X4_cellsToTheRight x1 x2 z.2.2 σ).bind fun q3 => some (.inl ((if z.1 < ((if q3 < z.2.1 then q3 else z.2.1) * ((z.2.2 - x3) + 1)) then ((if q3 < z.2.1 then q3 else z.2.1) * ((z.2.2 - x3) + 1)) else z.1), (if q3 < z.2.1 then q3 else z.2.1), z.2.2 + 1))
set_option maxHeartbeats 4000000 in
set_option maxRecDepth 100000 in
theorem w_X4_greatestFrom_l12 (X : Cx g RX4 cX4_greatestFrom 7 (some .int) p s m args meth c) (x1 : Int32) (x2 : Int32) (x3 : Int32) (σ : St) {r : Int32} (KX0 : ∀ (v : Int32), r = v → ∀ (H : Heap) (locs : List Loc) (ls : Array Slot), Wd g s σ H locs → lv_has ls 7 [(4, .int (v))] → W p l e (rmm 2 45) s m args below meth c H locs 0 0 Q (F0 m 63 ls [])) : ∀ (n : Nat) (z : Int32 × Int32 × Int32) {H : Heap} {locs : List Loc} {ls : Array Slot}, Wd g s σ H locs → lv_has ls 7 [(0, .ref (g.2.2 (89))), (1, .int (x1)), (2, .int (x2)), (3, .int (x3)), (4, .int (z.1)), (5, .int (z.2.1)), (6, .int (z.2.2))] → lp (f_X4_greatestFrom_l12 x1 x2 x3 σ) n z = some r → W p l e (rmm 2 45) s m args below meth c H locs 0 0 Q (F0 m 12 ls []) := by
  intro n
  induction n with
  | zero => intro z H locs ls Y hl h; cases h
  | succ n ih =>
    intro z H locs ls Y hl h
    obtain ⟨w, h, hw⟩ := lps h
    have KB : ∀ (v0_ : Int32) (v1_ : Int32) (v2_ : Int32), w = .inl (v0_, v1_, v2_) → ∀ (H : Heap) (locs : List Loc) (ls : Array Slot), Wd g s σ H locs → lv_has ls 7 [(0, .ref (g.2.2 (89))), (1, .int (x1)), (2, .int (x2)), (3, .int (x3)), (4, .int (v0_)), (5, .int (v1_)), (6, .int (v2_))] → W p l e (rmm 2 45) s m args below meth c H locs 0 0 Q (F0 m 12 ls []) := fun v0_ v1_ v2_ e H locs ls Y hl => ih (v0_, v1_, v2_) Y hl (lpl hw e)
    have KX0 := fun (v : Int32) (e : w = .inr v) => KX0 v (lpr hw e)
    unfold f_X4_greatestFrom_l12 at h
    refine lv_iload X.1 X.2.1 (dk T_X4_greatestFrom 7 rfl) (lv_at hl 6 rfl) ?_
    refine lv_aload_n X.1 X.2.1 (dk T_X4_greatestFrom 8 rfl) rfl (lv_at hl 0 rfl) ?_
    refine gg X Y fl_X4_22 rfl rfl (dk T_X4_greatestFrom 9 rfl) ?_
    refine lv_icmp_ge (tgt := 63) X.1 X.2.1 (dk T_X4_greatestFrom 10 rfl) rfl (fun c1 => ?_) (fun c1 => ?_)
    · replace h := ipos c1 h
      exact KX0 z.1 (Option.some.inj h).symm _ _ _ Y (lv_sub hl [4] rfl)
    · replace h := ineg c1 h
      refine lv_iload X.1 X.2.1 (dk T_X4_greatestFrom 11 rfl) (lv_at hl 5 rfl) ?_
      refine lv_if_le (tgt := 63) X.1 X.2.1 (dk T_X4_greatestFrom 12 rfl) rfl (fun c2 => ?_) (fun c2 => ?_)
      · replace h := ipos c2 h
        exact KX0 z.1 (Option.some.inj h).symm _ _ _ Y (lv_sub hl [4] rfl)
      · replace h := ineg c2 h
        refine lv_iload X.1 X.2.1 (dk T_X4_greatestFrom 13 rfl) (lv_at hl 5 rfl) ?_
        refine lv_aload_n X.1 X.2.1 (dk T_X4_greatestFrom 14 rfl) rfl (lv_at hl 0 rfl) ?_
        refine lv_iload_n X.1 X.2.1 (dk T_X4_greatestFrom 15 rfl) rfl (lv_at hl 1 rfl) ?_
        refine lv_iload_n X.1 X.2.1 (dk T_X4_greatestFrom 16 rfl) rfl (lv_at hl 2 rfl) ?_
        refine lv_iload X.1 X.2.1 (dk T_X4_greatestFrom 17 rfl) (lv_at hl 6 rfl) ?_
        obtain ⟨q3, hq3, h⟩ := bs h
        refine gvI (rest := [.int (z.2.1)]) X Y (c_X4_cellsToTheRight x1 x2 z.2.2 σ hq3) cb_X4_123 rfl hl.1 rfl rfl (Nat.le_of_ble_eq_true rfl) ⟨Nat.le_of_ble_eq_true rfl, Nat.le_of_ble_eq_true rfl⟩ (dk T_X4_greatestFrom 18 rfl) (fun H locs Y => ?_)
        refine gm_min X mb_X4_111 hl.1 (Nat.le_of_ble_eq_true rfl) (Nat.le_of_ble_eq_true rfl) (dk T_X4_greatestFrom 19 rfl) ?_
        refine lv_istore (lv' := [(5, .int ((if q3 < z.2.1 then q3 else z.2.1))), (0, .ref (g.2.2 (89))), (1, .int (x1)), (2, .int (x2)), (3, .int (x3)), (4, .int (z.1)), (6, .int (z.2.2))]) X.1 X.2.1 (dk T_X4_greatestFrom 20 rfl) hl (Nat.le_of_ble_eq_true rfl) rfl (fun ls hl => ?_)
        refine lv_iload X.1 X.2.1 (dk T_X4_greatestFrom 21 rfl) (lv_at hl 5 rfl) ?_
        refine lv_iload X.1 X.2.1 (dk T_X4_greatestFrom 22 rfl) (lv_at hl 0 rfl) ?_
        refine lv_iload X.1 X.2.1 (dk T_X4_greatestFrom 23 rfl) (lv_at hl 6 rfl) ?_
        refine lv_iload_n X.1 X.2.1 (dk T_X4_greatestFrom 24 rfl) rfl (lv_at hl 4 rfl) ?_
        refine lv_isub X.1 X.2.1 (dk T_X4_greatestFrom 25 rfl) ?_
        refine lv_iconst (v := 1) X.1 X.2.1 (dk T_X4_greatestFrom 26 rfl) ic_1 ?_
        refine lv_iadd X.1 X.2.1 (dk T_X4_greatestFrom 27 rfl) ?_
        refine lv_imul X.1 X.2.1 (dk T_X4_greatestFrom 28 rfl) ?_
        refine gm_max X mb_X4_116 hl.1 (Nat.le_of_ble_eq_true rfl) (Nat.le_of_ble_eq_true rfl) (dk T_X4_greatestFrom 29 rfl) ?_
        refine lv_istore (lv' := [(4, .int ((if z.1 < ((if q3 < z.2.1 then q3 else z.2.1) * ((z.2.2 - x3) + 1)) then ((if q3 < z.2.1 then q3 else z.2.1) * ((z.2.2 - x3) + 1)) else z.1))), (5, .int ((if q3 < z.2.1 then q3 else z.2.1))), (0, .ref (g.2.2 (89))), (1, .int (x1)), (2, .int (x2)), (3, .int (x3)), (6, .int (z.2.2))]) X.1 X.2.1 (dk T_X4_greatestFrom 30 rfl) hl (Nat.le_of_ble_eq_true rfl) rfl (fun ls hl => ?_)
        refine lv_iinc (v := z.2.2 + 1) (lv' := [(6, .int (z.2.2 + 1)), (4, .int ((if z.1 < ((if q3 < z.2.1 then q3 else z.2.1) * ((z.2.2 - x3) + 1)) then ((if q3 < z.2.1 then q3 else z.2.1) * ((z.2.2 - x3) + 1)) else z.1))), (5, .int ((if q3 < z.2.1 then q3 else z.2.1))), (0, .ref (g.2.2 (89))), (1, .int (x1)), (2, .int (x2)), (3, .int (x3))]) X.1 X.2.1 (dk T_X4_greatestFrom 31 rfl) hl (k := 6) rfl (icx ic_1) (Nat.le_of_ble_eq_true rfl) rfl (fun ls hl => ?_)
        refine lv_goto (tgt := 12) X.1 X.2.1 (dk T_X4_greatestFrom 32 rfl) rfl ?_
        exact KB (if z.1 < ((if q3 < z.2.1 then q3 else z.2.1) * ((z.2.2 - x3) + 1)) then ((if q3 < z.2.1 then q3 else z.2.1) * ((z.2.2 - x3) + 1)) else z.1) (if q3 < z.2.1 then q3 else z.2.1) (z.2.2 + 1) (Option.some.inj h).symm _ _ _ Y (lv_sub hl [3, 4, 5, 6, 1, 2, 0] rfl)
def f_X4_greatestFrom_0 (x1 : Int32) (x2 : Int32) (x3 : Int32) (σ : St) : Option (Int32) :=
  (lp (f_X4_greatestFrom_l12 x1 x2 x3 σ) FU (0, σ 89 2, x3)).bind fun q6 => some q6
set_option maxHeartbeats 4000000 in
set_option maxRecDepth 100000 in
theorem w_X4_greatestFrom_0 (X : Cx g RX4 cX4_greatestFrom 7 (some .int) p s m args meth c) (x1 : Int32) (x2 : Int32) (x3 : Int32) (σ : St) {w : Int32} (KR : ∀ (H : Heap) (locs : List Loc) (ls : Array Slot) (pc : Nat), Wd g s σ H locs → decode cX4_greatestFrom pc = .ok (.ireturn, 1) → W p l e (rmm 2 45) s m args below meth c H locs 0 0 Q (F0 m pc ls [.int (w)])) {H : Heap} {locs : List Loc} {ls : Array Slot} (Y : Wd g s σ H locs) (hl : lv_has ls 7 [(0, .ref (g.2.2 (89))), (1, .int (x1)), (2, .int (x2)), (3, .int (x3))]) (h : f_X4_greatestFrom_0 x1 x2 x3 σ = some w) : W p l e (rmm 2 45) s m args below meth c H locs 0 0 Q (F0 m 0 ls []) := by
  unfold f_X4_greatestFrom_0 at h
  refine lv_iconst (v := 0) X.1 X.2.1 (dk T_X4_greatestFrom 0 rfl) ic_0 ?_
  refine lv_istore (lv' := [(4, .int (0)), (0, .ref (g.2.2 (89))), (1, .int (x1)), (2, .int (x2)), (3, .int (x3))]) X.1 X.2.1 (dk T_X4_greatestFrom 1 rfl) hl (Nat.le_of_ble_eq_true rfl) rfl (fun ls hl => ?_)
  refine lv_aload_n X.1 X.2.1 (dk T_X4_greatestFrom 2 rfl) rfl (lv_at hl 1 rfl) ?_
  refine gg X Y fl_X4_18 rfl rfl (dk T_X4_greatestFrom 3 rfl) ?_
  refine lv_istore (lv' := [(5, .int (σ 89 2)), (4, .int (0)), (0, .ref (g.2.2 (89))), (1, .int (x1)), (2, .int (x2)), (3, .int (x3))]) X.1 X.2.1 (dk T_X4_greatestFrom 4 rfl) hl (Nat.le_of_ble_eq_true rfl) rfl (fun ls hl => ?_)
  refine lv_iload_n X.1 X.2.1 (dk T_X4_greatestFrom 5 rfl) rfl (lv_at hl 5 rfl) ?_
  refine lv_istore (lv' := [(6, .int (x3)), (5, .int (σ 89 2)), (4, .int (0)), (0, .ref (g.2.2 (89))), (1, .int (x1)), (2, .int (x2)), (3, .int (x3))]) X.1 X.2.1 (dk T_X4_greatestFrom 6 rfl) hl (Nat.le_of_ble_eq_true rfl) rfl (fun ls hl => ?_)
  obtain ⟨q6, hq6, h⟩ := bs h
  refine w_X4_greatestFrom_l12 X x1 x2 x3 σ (fun v e H locs ls Y hl => ?_) FU (0, σ 89 2, x3) Y (lv_sub hl [3, 4, 5, 6, 2, 1, 0] rfl) hq6
  · obtain rfl := e
    refine lv_iload X.1 X.2.1 (dk T_X4_greatestFrom 33 rfl) (lv_at hl 0 rfl) ?_
    obtain rfl := Option.some.inj h
    exact KR _ _ _ _ Y (dk T_X4_greatestFrom 34 rfl)
def f_X4_greatestFrom (x1 : Int32) (x2 : Int32) (x3 : Int32) (σ : St) : Option (Int32) := f_X4_greatestFrom_0 x1 x2 x3 σ
set_option maxHeartbeats 4000000 in
set_option maxRecDepth 100000 in
theorem c_X4_greatestFrom {l : Launch} {g : Geo} (x1 : Int32) (x2 : Int32) (x3 : Int32) (σ : St) {w : Int32} (h : f_X4_greatestFrom x1 x2 x3 σ = some w) : CtI l yX4_greatestFrom cX4_greatestFrom 7 (some .int) (rmm 2 45) g [.ref (g.2.2 (89)), .int (x1), .int (x2), .int (x3)] σ w σ := enI .int (by decide) rfl rfl (Nat.le_of_ble_eq_true rfl) (fun p e s m args below meth c Q X Y ls hl KR => w_X4_greatestFrom_0 X x1 x2 x3 σ KR Y hl h)
def I_X4_greatestRectangle : List (Nat × Instr × Nat) := [(0, .iconst 0, 1), (1, .istore_n 2, 1), (2, .iconst 0, 1), (3, .istore_n 3, 1), (4, .iload_n 3, 1), (5, .aload_n 0, 1), (6, .getfield 22, 3), (9, .if_icmp .ge 40, 3), (12, .iconst 0, 1), (13, .istore 4, 2), (15, .iload 4, 2), (17, .aload_n 0, 1), (18, .getfield 18, 3), (21, .if_icmp .ge 22, 3), (24, .iload_n 2, 1), (25, .aload_n 0, 1), (26, .iload_n 1, 1), (27, .iload 4, 2), (29, .iload_n 3, 1), (30, .invokevirtual 119, 3), (33, .invokestatic 116, 3), (36, .istore_n 2, 1), (37, .iinc 4 1, 3), (40, .goto (-25), 3), (43, .iinc 3 1, 3), (46, .goto (-42), 3), (49, .iload_n 2, 1), (50, .ireturn, 1)]
set_option maxRecDepth 100000 in
theorem T_X4_greatestRectangle : ∀ q ∈ I_X4_greatestRectangle, decode cX4_greatestRectangle q.1 = .ok (q.2.1, q.2.2) := by decide +kernel
def f_X4_greatestRectangle_l15 (x1 : Int32) (x3 : Int32) (σ : St) (z : Int32 × Int32) : Option ((Int32 × Int32) ⊕ (Int32)) :=
  if (σ 89 2) ≤ z.2 then some (.inr z.1) else (f_X4_greatestFrom x1 z.2 x3 σ).bind fun q3 => some (.inl ((if z.1 < q3 then q3 else z.1), z.2 + 1))
set_option maxHeartbeats 4000000 in
set_option maxRecDepth 100000 in
theorem w_X4_greatestRectangle_l15 (X : Cx g RX4 cX4_greatestRectangle 5 (some .int) p s m args meth c) (x1 : Int32) (x3 : Int32) (σ : St) {r : Int32} (KX0 : ∀ (v : Int32), r = v → ∀ (H : Heap) (locs : List Loc) (ls : Array Slot), Wd g s σ H locs → lv_has ls 5 [(0, .ref (g.2.2 (89))), (1, .int (x1)), (2, .int (v)), (3, .int (x3))] → W p l e (rmm 3 71) s m args below meth c H locs 0 0 Q (F0 m 43 ls [])) : ∀ (n : Nat) (z : Int32 × Int32) {H : Heap} {locs : List Loc} {ls : Array Slot}, Wd g s σ H locs → lv_has ls 5 [(0, .ref (g.2.2 (89))), (1, .int (x1)), (2, .int (z.1)), (3, .int (x3)), (4, .int (z.2))] → lp (f_X4_greatestRectangle_l15 x1 x3 σ) n z = some r → W p l e (rmm 3 71) s m args below meth c H locs 0 0 Q (F0 m 15 ls []) := by
  intro n
  induction n with
  | zero => intro z H locs ls Y hl h; cases h
  | succ n ih =>
    intro z H locs ls Y hl h
    obtain ⟨w, h, hw⟩ := lps h
    have KB : ∀ (v0_ : Int32) (v1_ : Int32), w = .inl (v0_, v1_) → ∀ (H : Heap) (locs : List Loc) (ls : Array Slot), Wd g s σ H locs → lv_has ls 5 [(0, .ref (g.2.2 (89))), (1, .int (x1)), (2, .int (v0_)), (3, .int (x3)), (4, .int (v1_))] → W p l e (rmm 3 71) s m args below meth c H locs 0 0 Q (F0 m 15 ls []) := fun v0_ v1_ e H locs ls Y hl => ih (v0_, v1_) Y hl (lpl hw e)
    have KX0 := fun (v : Int32) (e : w = .inr v) => KX0 v (lpr hw e)
    unfold f_X4_greatestRectangle_l15 at h
    refine lv_iload X.1 X.2.1 (dk T_X4_greatestRectangle 10 rfl) (lv_at hl 4 rfl) ?_
    refine lv_aload_n X.1 X.2.1 (dk T_X4_greatestRectangle 11 rfl) rfl (lv_at hl 0 rfl) ?_
    refine gg X Y fl_X4_18 rfl rfl (dk T_X4_greatestRectangle 12 rfl) ?_
    refine lv_icmp_ge (tgt := 43) X.1 X.2.1 (dk T_X4_greatestRectangle 13 rfl) rfl (fun c2 => ?_) (fun c2 => ?_)
    · replace h := ipos c2 h
      exact KX0 z.1 (Option.some.inj h).symm _ _ _ Y (lv_sub hl [0, 1, 2, 3] rfl)
    · replace h := ineg c2 h
      refine lv_iload_n X.1 X.2.1 (dk T_X4_greatestRectangle 14 rfl) rfl (lv_at hl 2 rfl) ?_
      refine lv_aload_n X.1 X.2.1 (dk T_X4_greatestRectangle 15 rfl) rfl (lv_at hl 0 rfl) ?_
      refine lv_iload_n X.1 X.2.1 (dk T_X4_greatestRectangle 16 rfl) rfl (lv_at hl 1 rfl) ?_
      refine lv_iload X.1 X.2.1 (dk T_X4_greatestRectangle 17 rfl) (lv_at hl 4 rfl) ?_
      refine lv_iload_n X.1 X.2.1 (dk T_X4_greatestRectangle 18 rfl) rfl (lv_at hl 3 rfl) ?_
      obtain ⟨q3, hq3, h⟩ := bs h
      refine gvI (rest := [.int (z.1)]) X Y (c_X4_greatestFrom x1 z.2 x3 σ hq3) cb_X4_119 rfl hl.1 rfl rfl (Nat.le_of_ble_eq_true rfl) ⟨Nat.le_of_ble_eq_true rfl, Nat.le_of_ble_eq_true rfl⟩ (dk T_X4_greatestRectangle 19 rfl) (fun H locs Y => ?_)
      refine gm_max X mb_X4_116 hl.1 (Nat.le_of_ble_eq_true rfl) (Nat.le_of_ble_eq_true rfl) (dk T_X4_greatestRectangle 20 rfl) ?_
      refine lv_istore_n (lv' := [(2, .int ((if z.1 < q3 then q3 else z.1))), (0, .ref (g.2.2 (89))), (1, .int (x1)), (3, .int (x3)), (4, .int (z.2))]) X.1 X.2.1 (dk T_X4_greatestRectangle 21 rfl) rfl hl (Nat.le_of_ble_eq_true rfl) rfl (fun ls hl => ?_)
      refine lv_iinc (v := z.2 + 1) (lv' := [(4, .int (z.2 + 1)), (2, .int ((if z.1 < q3 then q3 else z.1))), (0, .ref (g.2.2 (89))), (1, .int (x1)), (3, .int (x3))]) X.1 X.2.1 (dk T_X4_greatestRectangle 22 rfl) hl (k := 4) rfl (icx ic_1) (Nat.le_of_ble_eq_true rfl) rfl (fun ls hl => ?_)
      refine lv_goto (tgt := 15) X.1 X.2.1 (dk T_X4_greatestRectangle 23 rfl) rfl ?_
      exact KB (if z.1 < q3 then q3 else z.1) (z.2 + 1) (Option.some.inj h).symm _ _ _ Y (lv_sub hl [2, 3, 1, 4, 0] rfl)
def f_X4_greatestRectangle_l4 (x1 : Int32) (σ : St) (z : Int32 × Int32) : Option ((Int32 × Int32) ⊕ (Int32)) :=
  if (σ 89 3) ≤ z.2 then some (.inr z.1) else (lp (f_X4_greatestRectangle_l15 x1 z.2 σ) FU (z.1, 0)).bind fun q5 => some (.inl (q5, z.2 + 1))
set_option maxHeartbeats 4000000 in
set_option maxRecDepth 100000 in
theorem w_X4_greatestRectangle_l4 (X : Cx g RX4 cX4_greatestRectangle 5 (some .int) p s m args meth c) (x1 : Int32) (σ : St) {r : Int32} (KX0 : ∀ (v : Int32), r = v → ∀ (H : Heap) (locs : List Loc) (ls : Array Slot), Wd g s σ H locs → lv_has ls 5 [(2, .int (v))] → W p l e (rmm 3 71) s m args below meth c H locs 0 0 Q (F0 m 49 ls [])) : ∀ (n : Nat) (z : Int32 × Int32) {H : Heap} {locs : List Loc} {ls : Array Slot}, Wd g s σ H locs → lv_has ls 5 [(0, .ref (g.2.2 (89))), (1, .int (x1)), (2, .int (z.1)), (3, .int (z.2))] → lp (f_X4_greatestRectangle_l4 x1 σ) n z = some r → W p l e (rmm 3 71) s m args below meth c H locs 0 0 Q (F0 m 4 ls []) := by
  intro n
  induction n with
  | zero => intro z H locs ls Y hl h; cases h
  | succ n ih =>
    intro z H locs ls Y hl h
    obtain ⟨w, h, hw⟩ := lps h
    have KB : ∀ (v0_ : Int32) (v1_ : Int32), w = .inl (v0_, v1_) → ∀ (H : Heap) (locs : List Loc) (ls : Array Slot), Wd g s σ H locs → lv_has ls 5 [(0, .ref (g.2.2 (89))), (1, .int (x1)), (2, .int (v0_)), (3, .int (v1_))] → W p l e (rmm 3 71) s m args below meth c H locs 0 0 Q (F0 m 4 ls []) := fun v0_ v1_ e H locs ls Y hl => ih (v0_, v1_) Y hl (lpl hw e)
    have KX0 := fun (v : Int32) (e : w = .inr v) => KX0 v (lpr hw e)
    unfold f_X4_greatestRectangle_l4 at h
    refine lv_iload_n X.1 X.2.1 (dk T_X4_greatestRectangle 4 rfl) rfl (lv_at hl 3 rfl) ?_
    refine lv_aload_n X.1 X.2.1 (dk T_X4_greatestRectangle 5 rfl) rfl (lv_at hl 0 rfl) ?_
    refine gg X Y fl_X4_22 rfl rfl (dk T_X4_greatestRectangle 6 rfl) ?_
    refine lv_icmp_ge (tgt := 49) X.1 X.2.1 (dk T_X4_greatestRectangle 7 rfl) rfl (fun c1 => ?_) (fun c1 => ?_)
    · replace h := ipos c1 h
      exact KX0 z.1 (Option.some.inj h).symm _ _ _ Y (lv_sub hl [2] rfl)
    · replace h := ineg c1 h
      refine lv_iconst (v := 0) X.1 X.2.1 (dk T_X4_greatestRectangle 8 rfl) ic_0 ?_
      refine lv_istore (lv' := [(4, .int (0)), (0, .ref (g.2.2 (89))), (1, .int (x1)), (2, .int (z.1)), (3, .int (z.2))]) X.1 X.2.1 (dk T_X4_greatestRectangle 9 rfl) hl (Nat.le_of_ble_eq_true rfl) rfl (fun ls hl => ?_)
      obtain ⟨q5, hq5, h⟩ := bs h
      refine w_X4_greatestRectangle_l15 X x1 z.2 σ (fun v e H locs ls Y hl => ?_) FU (z.1, 0) Y (lv_sub hl [1, 2, 3, 4, 0] rfl) hq5
      · obtain rfl := e
        refine lv_iinc (v := z.2 + 1) (lv' := [(3, .int (z.2 + 1)), (0, .ref (g.2.2 (89))), (1, .int (x1)), (2, .int (q5))]) X.1 X.2.1 (dk T_X4_greatestRectangle 24 rfl) hl (k := 3) rfl (icx ic_1) (Nat.le_of_ble_eq_true rfl) rfl (fun ls hl => ?_)
        refine lv_goto (tgt := 4) X.1 X.2.1 (dk T_X4_greatestRectangle 25 rfl) rfl ?_
        exact KB q5 (z.2 + 1) (Option.some.inj h).symm _ _ _ Y (lv_sub hl [1, 2, 3, 0] rfl)
def f_X4_greatestRectangle_0 (x1 : Int32) (σ : St) : Option (Int32) :=
  (lp (f_X4_greatestRectangle_l4 x1 σ) FU (0, 0)).bind fun q6 => some q6
set_option maxHeartbeats 4000000 in
set_option maxRecDepth 100000 in
theorem w_X4_greatestRectangle_0 (X : Cx g RX4 cX4_greatestRectangle 5 (some .int) p s m args meth c) (x1 : Int32) (σ : St) {w : Int32} (KR : ∀ (H : Heap) (locs : List Loc) (ls : Array Slot) (pc : Nat), Wd g s σ H locs → decode cX4_greatestRectangle pc = .ok (.ireturn, 1) → W p l e (rmm 3 71) s m args below meth c H locs 0 0 Q (F0 m pc ls [.int (w)])) {H : Heap} {locs : List Loc} {ls : Array Slot} (Y : Wd g s σ H locs) (hl : lv_has ls 5 [(0, .ref (g.2.2 (89))), (1, .int (x1))]) (h : f_X4_greatestRectangle_0 x1 σ = some w) : W p l e (rmm 3 71) s m args below meth c H locs 0 0 Q (F0 m 0 ls []) := by
  unfold f_X4_greatestRectangle_0 at h
  refine lv_iconst (v := 0) X.1 X.2.1 (dk T_X4_greatestRectangle 0 rfl) ic_0 ?_
  refine lv_istore_n (lv' := [(2, .int (0)), (0, .ref (g.2.2 (89))), (1, .int (x1))]) X.1 X.2.1 (dk T_X4_greatestRectangle 1 rfl) rfl hl (Nat.le_of_ble_eq_true rfl) rfl (fun ls hl => ?_)
  refine lv_iconst (v := 0) X.1 X.2.1 (dk T_X4_greatestRectangle 2 rfl) ic_0 ?_
  refine lv_istore_n (lv' := [(3, .int (0)), (2, .int (0)), (0, .ref (g.2.2 (89))), (1, .int (x1))]) X.1 X.2.1 (dk T_X4_greatestRectangle 3 rfl) rfl hl (Nat.le_of_ble_eq_true rfl) rfl (fun ls hl => ?_)
  obtain ⟨q6, hq6, h⟩ := bs h
  refine w_X4_greatestRectangle_l4 X x1 σ (fun v e H locs ls Y hl => ?_) FU (0, 0) Y (lv_sub hl [2, 3, 1, 0] rfl) hq6
  · obtain rfl := e
    refine lv_iload_n X.1 X.2.1 (dk T_X4_greatestRectangle 26 rfl) rfl (lv_at hl 0 rfl) ?_
    obtain rfl := Option.some.inj h
    exact KR _ _ _ _ Y (dk T_X4_greatestRectangle 27 rfl)
def f_X4_greatestRectangle (x1 : Int32) (σ : St) : Option (Int32) := f_X4_greatestRectangle_0 x1 σ
set_option maxHeartbeats 4000000 in
set_option maxRecDepth 100000 in
theorem c_X4_greatestRectangle {l : Launch} {g : Geo} (x1 : Int32) (σ : St) {w : Int32} (h : f_X4_greatestRectangle x1 σ = some w) : CtI l yX4_greatestRectangle cX4_greatestRectangle 5 (some .int) (rmm 3 71) g [.ref (g.2.2 (89)), .int (x1)] σ w σ := enI .int (by decide) rfl rfl (Nat.le_of_ble_eq_true rfl) (fun p e s m args below meth c Q X Y ls hl KR => w_X4_greatestRectangle_0 X x1 σ KR Y hl h)
def I_X4_splitOff : List (Nat × Instr × Nat) := [(0, .aload_n 0, 1), (1, .iload_n 3, 1), (2, .invokevirtual 126, 3), (5, .iconst 2, 1), (6, .aload_n 0, 1), (7, .invokevirtual 130, 3), (10, .invokestatic 116, 3), (13, .istore 4, 2), (15, .iconst 2, 1), (16, .aload_n 0, 1), (17, .invokevirtual 133, 3), (20, .invokestatic 116, 3), (23, .istore 5, 2), (25, .aload_n 1, 1), (26, .iload 4, 2), (28, .iload 5, 2), (30, .aload_n 1, 1), (31, .getfield 136, 3), (34, .iload_n 2, 1), (35, .iconst 2, 1), (36, .invokevirtual 57, 3), (39, .bipush (-2), 2), (41, .invokevirtual 139, 3), (44, .istore 6, 2), (46, .aload_n 0, 1), (47, .getfield 102, 3), (50, .istore 7, 2), (52, .iload 7, 2), (54, .aload_n 0, 1), (55, .getfield 105, 3), (58, .if_icmp .gt 86, 3), (61, .aload_n 0, 1), (62, .getfield 96, 3), (65, .istore 8, 2), (67, .iload 8, 2), (69, .aload_n 0, 1), (70, .getfield 99, 3), (73, .if_icmp .gt 65, 3), (76, .iload 8, 2), (78, .aload_n 0, 1), (79, .getfield 18, 3), (82, .iload 7, 2), (84, .imul, 1), (85, .iadd, 1), (86, .istore 9, 2), (88, .aload_n 0, 1), (89, .iload 9, 2), (91, .invokevirtual 45, 3), (94, .iload_n 3, 1), (95, .if_icmp .ne 37, 3), (98, .aload_n 1, 1), (99, .iload 6, 2), (101, .iload 8, 2), (103, .aload_n 0, 1), (104, .getfield 96, 3), (107, .isub, 1), (108, .iload 4, 2), (110, .iload 7, 2), (112, .aload_n 0, 1), (113, .getfield 102, 3), (116, .isub, 1), (117, .imul, 1), (118, .iadd, 1), (119, .iconst (-1), 1), (120, .invokevirtual 143, 3), (123, .aload_n 1, 1), (124, .iload_n 2, 1), (125, .iload 9, 2), (127, .bipush (-2), 2), (129, .invokevirtual 143, 3), (132, .iinc 8 1, 3), (135, .goto (-68), 3), (138, .iinc 7 1, 3), (141, .goto (-89), 3), (144, .iload 6, 2), (146, .ireturn, 1)]
set_option maxRecDepth 100000 in
theorem T_X4_splitOff : ∀ q ∈ I_X4_splitOff, decode cX4_splitOff q.1 = .ok (q.2.1, q.2.2) := by decide +kernel
def f_X4_splitOff_j132 (t1 : Nat) (x2 : Int32) (x3 : Int32) (x4 : Int32) (x6 : Int32) (x7 : Int32) (x8 : Int32) (σ : St) : Option ((Int32 × St) ⊕ (St)) :=
  some (.inl (x8 + 1, σ))
set_option maxHeartbeats 4000000 in
set_option maxRecDepth 100000 in
theorem w_X4_splitOff_j132 (X : Cx g RX4 cX4_splitOff 10 (some .int) p s m args meth c) (t1 : Nat) (hk1 : kd t1 = 9) (x2 : Int32) (x3 : Int32) (x4 : Int32) (x6 : Int32) (x7 : Int32) (x8 : Int32) (σ : St) {w : (Int32 × St) ⊕ (St)} (KB : ∀ (v0_ : Int32) (v1_ : St), w = .inl (v0_, v1_) → ∀ (H : Heap) (locs : List Loc) (ls : Array Slot), Wd g s v1_ H locs → lv_has ls 10 [(0, .ref (g.2.2 (89))), (1, .ref (g.2.2 (t1))), (2, .int (x2)), (3, .int (x3)), (4, .int (x4)), (6, .int (x6)), (7, .int (x7)), (8, .int (v0_))] → W p l e (rmm 3 73) s m args below meth c H locs 0 0 Q (F0 m 67 ls [])) (KX0 : ∀ (v : St), w = .inr v → ∀ (H : Heap) (locs : List Loc) (ls : Array Slot), Wd g s v H locs → lv_has ls 10 [(0, .ref (g.2.2 (89))), (1, .ref (g.2.2 (t1))), (2, .int (x2)), (3, .int (x3)), (4, .int (x4)), (6, .int (x6)), (7, .int (x7))] → W p l e (rmm 3 73) s m args below meth c H locs 0 0 Q (F0 m 138 ls [])) {H : Heap} {locs : List Loc} {ls : Array Slot} (Y : Wd g s σ H locs) (hl : lv_has ls 10 [(0, .ref (g.2.2 (89))), (1, .ref (g.2.2 (t1))), (2, .int (x2)), (3, .int (x3)), (4, .int (x4)), (6, .int (x6)), (7, .int (x7)), (8, .int (x8))]) (h : f_X4_splitOff_j132 t1 x2 x3 x4 x6 x7 x8 σ = some w) : W p l e (rmm 3 73) s m args below meth c H locs 0 0 Q (F0 m 132 ls []) := by
  unfold f_X4_splitOff_j132 at h
  refine lv_iinc (v := x8 + 1) (lv' := [(8, .int (x8 + 1)), (0, .ref (g.2.2 (89))), (1, .ref (g.2.2 (t1))), (2, .int (x2)), (3, .int (x3)), (4, .int (x4)), (6, .int (x6)), (7, .int (x7))]) X.1 X.2.1 (dk T_X4_splitOff 70 rfl) hl (k := 7) rfl (icx ic_1) (Nat.le_of_ble_eq_true rfl) rfl (fun ls hl => ?_)
  refine lv_goto (tgt := 67) X.1 X.2.1 (dk T_X4_splitOff 71 rfl) rfl ?_
  exact KB (x8 + 1) σ (Option.some.inj h).symm _ _ _ Y (lv_sub hl [1, 2, 3, 4, 5, 6, 7, 0] rfl)
def f_X4_splitOff_l67 (t1 : Nat) (x2 : Int32) (x3 : Int32) (x4 : Int32) (x6 : Int32) (x7 : Int32) (z : Int32 × St) : Option ((Int32 × St) ⊕ (St)) :=
  if (z.2 89 8) < z.1 then some (.inr z.2) else (f_X4_labelAt (z.1 + ((z.2 89 2) * x7)) z.2).bind fun q10 => if q10 = x3 then (f_X8_setCell t1 x6 ((z.1 - (z.2 89 7)) + (x4 * (x7 - (z.2 89 9)))) (-1) z.2).bind fun q12 => (f_X8_setCell t1 x2 (z.1 + ((z.2 89 2) * x7)) (-2) q12).bind fun q13 => f_X4_splitOff_j132 t1 x2 x3 x4 x6 x7 z.1 q13 else f_X4_splitOff_j132 t1 x2 x3 x4 x6 x7 z.1 z.2
set_option maxHeartbeats 4000000 in
set_option maxRecDepth 100000 in
theorem w_X4_splitOff_l67 (X : Cx g RX4 cX4_splitOff 10 (some .int) p s m args meth c) (t1 : Nat) (hk1 : kd t1 = 9) (x2 : Int32) (x3 : Int32) (x4 : Int32) (x6 : Int32) (x7 : Int32) (σ : St) {r : St} (KX0 : ∀ (v : St), r = v → ∀ (H : Heap) (locs : List Loc) (ls : Array Slot), Wd g s v H locs → lv_has ls 10 [(0, .ref (g.2.2 (89))), (1, .ref (g.2.2 (t1))), (2, .int (x2)), (3, .int (x3)), (4, .int (x4)), (6, .int (x6)), (7, .int (x7))] → W p l e (rmm 3 73) s m args below meth c H locs 0 0 Q (F0 m 138 ls [])) : ∀ (n : Nat) (z : Int32 × St) {H : Heap} {locs : List Loc} {ls : Array Slot}, Wd g s z.2 H locs → lv_has ls 10 [(0, .ref (g.2.2 (89))), (1, .ref (g.2.2 (t1))), (2, .int (x2)), (3, .int (x3)), (4, .int (x4)), (6, .int (x6)), (7, .int (x7)), (8, .int (z.1))] → lp (f_X4_splitOff_l67 t1 x2 x3 x4 x6 x7) n z = some r → W p l e (rmm 3 73) s m args below meth c H locs 0 0 Q (F0 m 67 ls []) := by
  intro n
  induction n with
  | zero => intro z H locs ls Y hl h; cases h
  | succ n ih =>
    intro z H locs ls Y hl h
    obtain ⟨w, h, hw⟩ := lps h
    have KB : ∀ (v0_ : Int32) (v1_ : St), w = .inl (v0_, v1_) → ∀ (H : Heap) (locs : List Loc) (ls : Array Slot), Wd g s v1_ H locs → lv_has ls 10 [(0, .ref (g.2.2 (89))), (1, .ref (g.2.2 (t1))), (2, .int (x2)), (3, .int (x3)), (4, .int (x4)), (6, .int (x6)), (7, .int (x7)), (8, .int (v0_))] → W p l e (rmm 3 73) s m args below meth c H locs 0 0 Q (F0 m 67 ls []) := fun v0_ v1_ e H locs ls Y hl => ih (v0_, v1_) Y hl (lpl hw e)
    have KX0 := fun (v : St) (e : w = .inr v) => KX0 v (lpr hw e)
    unfold f_X4_splitOff_l67 at h
    refine lv_iload X.1 X.2.1 (dk T_X4_splitOff 34 rfl) (lv_at hl 7 rfl) ?_
    refine lv_aload_n X.1 X.2.1 (dk T_X4_splitOff 35 rfl) rfl (lv_at hl 0 rfl) ?_
    refine gg X Y fl_X4_99 rfl rfl (dk T_X4_splitOff 36 rfl) ?_
    refine lv_icmp_gt (tgt := 138) X.1 X.2.1 (dk T_X4_splitOff 37 rfl) rfl (fun c9 => ?_) (fun c9 => ?_)
    · replace h := ipos c9 h
      exact KX0 z.2 (Option.some.inj h).symm _ _ _ Y (lv_sub hl [0, 1, 2, 3, 4, 5, 6] rfl)
    · replace h := ineg c9 h
      refine lv_iload X.1 X.2.1 (dk T_X4_splitOff 38 rfl) (lv_at hl 7 rfl) ?_
      refine lv_aload_n X.1 X.2.1 (dk T_X4_splitOff 39 rfl) rfl (lv_at hl 0 rfl) ?_
      refine gg X Y fl_X4_18 rfl rfl (dk T_X4_splitOff 40 rfl) ?_
      refine lv_iload X.1 X.2.1 (dk T_X4_splitOff 41 rfl) (lv_at hl 6 rfl) ?_
      refine lv_imul X.1 X.2.1 (dk T_X4_splitOff 42 rfl) ?_
      refine lv_iadd X.1 X.2.1 (dk T_X4_splitOff 43 rfl) ?_
      refine lv_istore (lv' := [(9, .int (z.1 + ((z.2 89 2) * x7))), (0, .ref (g.2.2 (89))), (1, .ref (g.2.2 (t1))), (2, .int (x2)), (3, .int (x3)), (4, .int (x4)), (6, .int (x6)), (7, .int (x7)), (8, .int (z.1))]) X.1 X.2.1 (dk T_X4_splitOff 44 rfl) hl (Nat.le_of_ble_eq_true rfl) rfl (fun ls hl => ?_)
      refine lv_aload_n X.1 X.2.1 (dk T_X4_splitOff 45 rfl) rfl (lv_at hl 1 rfl) ?_
      refine lv_iload X.1 X.2.1 (dk T_X4_splitOff 46 rfl) (lv_at hl 0 rfl) ?_
      obtain ⟨q10, hq10, h⟩ := bs h
      refine gvI (rest := []) X Y (c_X4_labelAt (z.1 + ((z.2 89 2) * x7)) z.2 hq10) cb_X4_45 rfl hl.1 rfl rfl (Nat.le_of_ble_eq_true rfl) ⟨Nat.le_of_ble_eq_true rfl, Nat.le_of_ble_eq_true rfl⟩ (dk T_X4_splitOff 47 rfl) (fun H locs Y => ?_)
      refine lv_iload_n X.1 X.2.1 (dk T_X4_splitOff 48 rfl) rfl (lv_at hl 4 rfl) ?_
      refine lv_icmp_ne (tgt := 132) X.1 X.2.1 (dk T_X4_splitOff 49 rfl) rfl (fun c11 => ?_) (fun c11 => ?_)
      · replace h := ineg c11 h
        exact w_X4_splitOff_j132 X t1 hk1 x2 x3 x4 x6 x7 z.1 z.2 KB KX0 Y (lv_sub hl [1, 2, 3, 4, 5, 6, 7, 8] rfl) h
      · replace h := ipos c11 h
        refine lv_aload_n X.1 X.2.1 (dk T_X4_splitOff 50 rfl) rfl (lv_at hl 2 rfl) ?_
        refine lv_iload X.1 X.2.1 (dk T_X4_splitOff 51 rfl) (lv_at hl 6 rfl) ?_
        refine lv_iload X.1 X.2.1 (dk T_X4_splitOff 52 rfl) (lv_at hl 8 rfl) ?_
        refine lv_aload_n X.1 X.2.1 (dk T_X4_splitOff 53 rfl) rfl (lv_at hl 1 rfl) ?_
        refine gg X Y fl_X4_96 rfl rfl (dk T_X4_splitOff 54 rfl) ?_
        refine lv_isub X.1 X.2.1 (dk T_X4_splitOff 55 rfl) ?_
        refine lv_iload X.1 X.2.1 (dk T_X4_splitOff 56 rfl) (lv_at hl 5 rfl) ?_
        refine lv_iload X.1 X.2.1 (dk T_X4_splitOff 57 rfl) (lv_at hl 7 rfl) ?_
        refine lv_aload_n X.1 X.2.1 (dk T_X4_splitOff 58 rfl) rfl (lv_at hl 1 rfl) ?_
        refine gg X Y fl_X4_102 rfl rfl (dk T_X4_splitOff 59 rfl) ?_
        refine lv_isub X.1 X.2.1 (dk T_X4_splitOff 60 rfl) ?_
        refine lv_imul X.1 X.2.1 (dk T_X4_splitOff 61 rfl) ?_
        refine lv_iadd X.1 X.2.1 (dk T_X4_splitOff 62 rfl) ?_
        refine lv_iconst (v := (-1)) X.1 X.2.1 (dk T_X4_splitOff 63 rfl) ic_m1 ?_
        obtain ⟨q12, hq12, h⟩ := bs h
        refine gvV (rest := []) X Y (c_X8_setCell t1 hk1 x6 ((z.1 - (z.2 89 7)) + (x4 * (x7 - (z.2 89 9)))) (-1) z.2 hq12) cb_X4_143 hk1 hl.1 rfl rfl (Nat.le_of_ble_eq_true rfl) ⟨Nat.le_of_ble_eq_true rfl, Nat.le_of_ble_eq_true rfl⟩ (dk T_X4_splitOff 64 rfl) (fun H locs Y => ?_)
        refine lv_aload_n X.1 X.2.1 (dk T_X4_splitOff 65 rfl) rfl (lv_at hl 2 rfl) ?_
        refine lv_iload_n X.1 X.2.1 (dk T_X4_splitOff 66 rfl) rfl (lv_at hl 3 rfl) ?_
        refine lv_iload X.1 X.2.1 (dk T_X4_splitOff 67 rfl) (lv_at hl 0 rfl) ?_
        refine lv_bipush (v := (-2)) X.1 X.2.1 (dk T_X4_splitOff 68 rfl) bp_m2 ?_
        obtain ⟨q13, hq13, h⟩ := bs h
        refine gvV (rest := []) X Y (c_X8_setCell t1 hk1 x2 (z.1 + ((z.2 89 2) * x7)) (-2) q12 hq13) cb_X4_143 hk1 hl.1 rfl rfl (Nat.le_of_ble_eq_true rfl) ⟨Nat.le_of_ble_eq_true rfl, Nat.le_of_ble_eq_true rfl⟩ (dk T_X4_splitOff 69 rfl) (fun H locs Y => ?_)
        exact w_X4_splitOff_j132 X t1 hk1 x2 x3 x4 x6 x7 z.1 q13 KB KX0 Y (lv_sub hl [1, 2, 3, 4, 5, 6, 7, 8] rfl) h
def f_X4_splitOff_l52 (t1 : Nat) (x2 : Int32) (x3 : Int32) (x4 : Int32) (x6 : Int32) (z : Int32 × St) : Option ((Int32 × St) ⊕ (St)) :=
  if (z.2 89 10) < z.1 then some (.inr z.2) else (lp (f_X4_splitOff_l67 t1 x2 x3 x4 x6 z.1) FU (z.2 89 7, z.2)).bind fun q14 => some (.inl (z.1 + 1, q14))
set_option maxHeartbeats 4000000 in
set_option maxRecDepth 100000 in
theorem w_X4_splitOff_l52 (X : Cx g RX4 cX4_splitOff 10 (some .int) p s m args meth c) (t1 : Nat) (hk1 : kd t1 = 9) (x2 : Int32) (x3 : Int32) (x4 : Int32) (x6 : Int32) (σ : St) {r : St} (KX0 : ∀ (v : St), r = v → ∀ (H : Heap) (locs : List Loc) (ls : Array Slot), Wd g s v H locs → lv_has ls 10 [(6, .int (x6))] → W p l e (rmm 3 73) s m args below meth c H locs 0 0 Q (F0 m 144 ls [])) : ∀ (n : Nat) (z : Int32 × St) {H : Heap} {locs : List Loc} {ls : Array Slot}, Wd g s z.2 H locs → lv_has ls 10 [(0, .ref (g.2.2 (89))), (1, .ref (g.2.2 (t1))), (2, .int (x2)), (3, .int (x3)), (4, .int (x4)), (6, .int (x6)), (7, .int (z.1))] → lp (f_X4_splitOff_l52 t1 x2 x3 x4 x6) n z = some r → W p l e (rmm 3 73) s m args below meth c H locs 0 0 Q (F0 m 52 ls []) := by
  intro n
  induction n with
  | zero => intro z H locs ls Y hl h; cases h
  | succ n ih =>
    intro z H locs ls Y hl h
    obtain ⟨w, h, hw⟩ := lps h
    have KB : ∀ (v0_ : Int32) (v1_ : St), w = .inl (v0_, v1_) → ∀ (H : Heap) (locs : List Loc) (ls : Array Slot), Wd g s v1_ H locs → lv_has ls 10 [(0, .ref (g.2.2 (89))), (1, .ref (g.2.2 (t1))), (2, .int (x2)), (3, .int (x3)), (4, .int (x4)), (6, .int (x6)), (7, .int (v0_))] → W p l e (rmm 3 73) s m args below meth c H locs 0 0 Q (F0 m 52 ls []) := fun v0_ v1_ e H locs ls Y hl => ih (v0_, v1_) Y hl (lpl hw e)
    have KX0 := fun (v : St) (e : w = .inr v) => KX0 v (lpr hw e)
    unfold f_X4_splitOff_l52 at h
    refine lv_iload X.1 X.2.1 (dk T_X4_splitOff 27 rfl) (lv_at hl 6 rfl) ?_
    refine lv_aload_n X.1 X.2.1 (dk T_X4_splitOff 28 rfl) rfl (lv_at hl 0 rfl) ?_
    refine gg X Y fl_X4_105 rfl rfl (dk T_X4_splitOff 29 rfl) ?_
    refine lv_icmp_gt (tgt := 144) X.1 X.2.1 (dk T_X4_splitOff 30 rfl) rfl (fun c8 => ?_) (fun c8 => ?_)
    · replace h := ipos c8 h
      exact KX0 z.2 (Option.some.inj h).symm _ _ _ Y (lv_sub hl [5] rfl)
    · replace h := ineg c8 h
      refine lv_aload_n X.1 X.2.1 (dk T_X4_splitOff 31 rfl) rfl (lv_at hl 0 rfl) ?_
      refine gg X Y fl_X4_96 rfl rfl (dk T_X4_splitOff 32 rfl) ?_
      refine lv_istore (lv' := [(8, .int (z.2 89 7)), (0, .ref (g.2.2 (89))), (1, .ref (g.2.2 (t1))), (2, .int (x2)), (3, .int (x3)), (4, .int (x4)), (6, .int (x6)), (7, .int (z.1))]) X.1 X.2.1 (dk T_X4_splitOff 33 rfl) hl (Nat.le_of_ble_eq_true rfl) rfl (fun ls hl => ?_)
      obtain ⟨q14, hq14, h⟩ := bs h
      refine w_X4_splitOff_l67 X t1 hk1 x2 x3 x4 x6 z.1 σ (fun v e H locs ls Y hl => ?_) FU (z.2 89 7, z.2) Y (lv_sub hl [1, 2, 3, 4, 5, 6, 7, 0] rfl) hq14
      · obtain rfl := e
        refine lv_iinc (v := z.1 + 1) (lv' := [(7, .int (z.1 + 1)), (0, .ref (g.2.2 (89))), (1, .ref (g.2.2 (t1))), (2, .int (x2)), (3, .int (x3)), (4, .int (x4)), (6, .int (x6))]) X.1 X.2.1 (dk T_X4_splitOff 72 rfl) hl (k := 6) rfl (icx ic_1) (Nat.le_of_ble_eq_true rfl) rfl (fun ls hl => ?_)
        refine lv_goto (tgt := 52) X.1 X.2.1 (dk T_X4_splitOff 73 rfl) rfl ?_
        exact KB (z.1 + 1) q14 (Option.some.inj h).symm _ _ _ Y (lv_sub hl [1, 2, 3, 4, 5, 6, 0] rfl)
def f_X4_splitOff_0 (t1 : Nat) (x2 : Int32) (x3 : Int32) (σ : St) : Option (Int32 × St) :=
  (f_X4_measure x3 σ).bind fun q1 => (f_X4_columnsMeasured q1).bind fun q2 => (f_X4_rowsMeasured q1).bind fun q4 => (f_X9_get (t1 + 1) x2 2 q1).bind fun q6 => (f_X8_createSheet t1 (if 2 < q2 then q2 else 2) (if 2 < q4 then q4 else 2) q6 (-2) q1).bind fun q7 => (lp (f_X4_splitOff_l52 t1 x2 x3 (if 2 < q2 then q2 else 2) q7.1) FU (q7.2 89 9, q7.2)).bind fun q15 => some (q7.1, q15)
set_option maxHeartbeats 4000000 in
set_option maxRecDepth 100000 in
theorem w_X4_splitOff_0 (X : Cx g RX4 cX4_splitOff 10 (some .int) p s m args meth c) (t1 : Nat) (hk1 : kd t1 = 9) (x2 : Int32) (x3 : Int32) (σ : St) {w : Int32 × St} (KR : ∀ (H : Heap) (locs : List Loc) (ls : Array Slot) (pc : Nat), Wd g s w.2 H locs → decode cX4_splitOff pc = .ok (.ireturn, 1) → W p l e (rmm 3 73) s m args below meth c H locs 0 0 Q (F0 m pc ls [.int (w.1)])) {H : Heap} {locs : List Loc} {ls : Array Slot} (Y : Wd g s σ H locs) (hl : lv_has ls 10 [(0, .ref (g.2.2 (89))), (1, .ref (g.2.2 (t1))), (2, .int (x2)), (3, .int (x3))]) (h : f_X4_splitOff_0 t1 x2 x3 σ = some w) : W p l e (rmm 3 73) s m args below meth c H locs 0 0 Q (F0 m 0 ls []) := by
  unfold f_X4_splitOff_0 at h
  refine lv_aload_n X.1 X.2.1 (dk T_X4_splitOff 0 rfl) rfl (lv_at hl 0 rfl) ?_
  refine lv_iload_n X.1 X.2.1 (dk T_X4_splitOff 1 rfl) rfl (lv_at hl 3 rfl) ?_
  obtain ⟨q1, hq1, h⟩ := bs h
  refine gvV (rest := []) X Y (c_X4_measure x3 σ hq1) cb_X4_126 rfl hl.1 rfl rfl (Nat.le_of_ble_eq_true rfl) ⟨Nat.le_of_ble_eq_true rfl, Nat.le_of_ble_eq_true rfl⟩ (dk T_X4_splitOff 2 rfl) (fun H locs Y => ?_)
  refine lv_iconst (v := 2) X.1 X.2.1 (dk T_X4_splitOff 3 rfl) ic_2 ?_
  refine lv_aload_n X.1 X.2.1 (dk T_X4_splitOff 4 rfl) rfl (lv_at hl 0 rfl) ?_
  obtain ⟨q2, hq2, h⟩ := bs h
  refine gvI (rest := [.int (2)]) X Y (c_X4_columnsMeasured q1 hq2) cb_X4_130 rfl hl.1 rfl rfl (Nat.le_of_ble_eq_true rfl) ⟨Nat.le_of_ble_eq_true rfl, Nat.le_of_ble_eq_true rfl⟩ (dk T_X4_splitOff 5 rfl) (fun H locs Y => ?_)
  refine gm_max X mb_X4_116 hl.1 (Nat.le_of_ble_eq_true rfl) (Nat.le_of_ble_eq_true rfl) (dk T_X4_splitOff 6 rfl) ?_
  refine lv_istore (lv' := [(4, .int ((if 2 < q2 then q2 else 2))), (0, .ref (g.2.2 (89))), (1, .ref (g.2.2 (t1))), (2, .int (x2)), (3, .int (x3))]) X.1 X.2.1 (dk T_X4_splitOff 7 rfl) hl (Nat.le_of_ble_eq_true rfl) rfl (fun ls hl => ?_)
  refine lv_iconst (v := 2) X.1 X.2.1 (dk T_X4_splitOff 8 rfl) ic_2 ?_
  refine lv_aload_n X.1 X.2.1 (dk T_X4_splitOff 9 rfl) rfl (lv_at hl 1 rfl) ?_
  obtain ⟨q4, hq4, h⟩ := bs h
  refine gvI (rest := [.int (2)]) X Y (c_X4_rowsMeasured q1 hq4) cb_X4_133 rfl hl.1 rfl rfl (Nat.le_of_ble_eq_true rfl) ⟨Nat.le_of_ble_eq_true rfl, Nat.le_of_ble_eq_true rfl⟩ (dk T_X4_splitOff 10 rfl) (fun H locs Y => ?_)
  refine gm_max X mb_X4_116 hl.1 (Nat.le_of_ble_eq_true rfl) (Nat.le_of_ble_eq_true rfl) (dk T_X4_splitOff 11 rfl) ?_
  refine lv_istore (lv' := [(5, .int ((if 2 < q4 then q4 else 2))), (4, .int ((if 2 < q2 then q2 else 2))), (0, .ref (g.2.2 (89))), (1, .ref (g.2.2 (t1))), (2, .int (x2)), (3, .int (x3))]) X.1 X.2.1 (dk T_X4_splitOff 12 rfl) hl (Nat.le_of_ble_eq_true rfl) rfl (fun ls hl => ?_)
  refine lv_aload_n X.1 X.2.1 (dk T_X4_splitOff 13 rfl) rfl (lv_at hl 3 rfl) ?_
  refine lv_iload X.1 X.2.1 (dk T_X4_splitOff 14 rfl) (lv_at hl 1 rfl) ?_
  refine lv_iload X.1 X.2.1 (dk T_X4_splitOff 15 rfl) (lv_at hl 0 rfl) ?_
  refine lv_aload_n X.1 X.2.1 (dk T_X4_splitOff 16 rfl) rfl (lv_at hl 3 rfl) ?_
  refine ggN X Y fl_X4_136 hk1 rfl (dk T_X4_splitOff 17 rfl) ?_
  refine lv_iload_n X.1 X.2.1 (dk T_X4_splitOff 18 rfl) rfl (lv_at hl 4 rfl) ?_
  refine lv_iconst (v := 2) X.1 X.2.1 (dk T_X4_splitOff 19 rfl) ic_2 ?_
  obtain ⟨q6, hq6, h⟩ := bs h
  refine gvI (rest := [.int ((if 2 < q4 then q4 else 2)), .int ((if 2 < q2 then q2 else 2)), .ref (g.2.2 (t1))]) X Y (c_X9_get (t1 + 1) (ks1 hk1) x2 2 q1 hq6) cb_X4_57 (ks1 hk1) hl.1 rfl rfl (Nat.le_of_ble_eq_true rfl) ⟨Nat.le_of_ble_eq_true rfl, Nat.le_of_ble_eq_true rfl⟩ (dk T_X4_splitOff 20 rfl) (fun H locs Y => ?_)
  refine lv_bipush (v := (-2)) X.1 X.2.1 (dk T_X4_splitOff 21 rfl) bp_m2 ?_
  obtain ⟨q7, hq7, h⟩ := bs h
  refine gvI (rest := []) X Y (c_X8_createSheet t1 hk1 (if 2 < q2 then q2 else 2) (if 2 < q4 then q4 else 2) q6 (-2) q1 hq7) cb_X4_139 hk1 hl.1 rfl rfl (Nat.le_of_ble_eq_true rfl) ⟨Nat.le_of_ble_eq_true rfl, Nat.le_of_ble_eq_true rfl⟩ (dk T_X4_splitOff 22 rfl) (fun H locs Y => ?_)
  refine lv_istore (lv' := [(6, .int (q7.1)), (5, .int ((if 2 < q4 then q4 else 2))), (4, .int ((if 2 < q2 then q2 else 2))), (0, .ref (g.2.2 (89))), (1, .ref (g.2.2 (t1))), (2, .int (x2)), (3, .int (x3))]) X.1 X.2.1 (dk T_X4_splitOff 23 rfl) hl (Nat.le_of_ble_eq_true rfl) rfl (fun ls hl => ?_)
  refine lv_aload_n X.1 X.2.1 (dk T_X4_splitOff 24 rfl) rfl (lv_at hl 3 rfl) ?_
  refine gg X Y fl_X4_102 rfl rfl (dk T_X4_splitOff 25 rfl) ?_
  refine lv_istore (lv' := [(7, .int (q7.2 89 9)), (6, .int (q7.1)), (5, .int ((if 2 < q4 then q4 else 2))), (4, .int ((if 2 < q2 then q2 else 2))), (0, .ref (g.2.2 (89))), (1, .ref (g.2.2 (t1))), (2, .int (x2)), (3, .int (x3))]) X.1 X.2.1 (dk T_X4_splitOff 26 rfl) hl (Nat.le_of_ble_eq_true rfl) rfl (fun ls hl => ?_)
  obtain ⟨q15, hq15, h⟩ := bs h
  refine w_X4_splitOff_l52 X t1 hk1 x2 x3 (if 2 < q2 then q2 else 2) q7.1 σ (fun v e H locs ls Y hl => ?_) FU (q7.2 89 9, q7.2) Y (lv_sub hl [4, 5, 6, 7, 3, 1, 0] rfl) hq15
  · obtain rfl := e
    refine lv_iload X.1 X.2.1 (dk T_X4_splitOff 74 rfl) (lv_at hl 0 rfl) ?_
    obtain rfl := Option.some.inj h
    exact KR _ _ _ _ Y (dk T_X4_splitOff 75 rfl)
def f_X4_splitOff (t1 : Nat) (x2 : Int32) (x3 : Int32) (σ : St) : Option (Int32 × St) := f_X4_splitOff_0 t1 x2 x3 σ
set_option maxHeartbeats 4000000 in
set_option maxRecDepth 100000 in
theorem c_X4_splitOff {l : Launch} {g : Geo} (t1 : Nat) (hk1 : kd t1 = 9) (x2 : Int32) (x3 : Int32) (σ : St) {w : Int32 × St} (h : f_X4_splitOff t1 x2 x3 σ = some w) : CtI l yX4_splitOff cX4_splitOff 10 (some .int) (rmm 3 73) g [.ref (g.2.2 (89)), .ref (g.2.2 (t1)), .int (x2), .int (x3)] σ w.1 w.2 := enI .int (by decide) rfl rfl (Nat.le_of_ble_eq_true rfl) (fun p e s m args below meth c Q X Y ls hl KR => w_X4_splitOff_0 X t1 hk1 x2 x3 σ KR Y hl h)
end
