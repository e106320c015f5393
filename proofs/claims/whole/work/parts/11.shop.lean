theorem bp_m2 : (Int8.ofInt (-2)).toInt32 = (-2) := by decide
theorem bp_99 : (Int8.ofInt 99).toInt32 = 99 := by decide
theorem ic_5 : Int32.ofInt 5 = 5 := by decide
theorem cb_X8_26 : CBV RX8 26 yX9_copyFrom cX9_copyFrom 2 none 1 10 := ⟨⟨mw 6 8 rfl rfl, mw 1 24 rfl rfl, mw 6 11 rfl rfl, by decide, by decide, by decide +kernel⟩, mw 6 9 rfl rfl, mw 6 10 rfl rfl, TX9, 3, tyX9, cl_X9⟩
theorem cb_X8_30 : CBV RX8 30 yX9_get cX9_get 4 (some .int) 2 10 := ⟨⟨mw 11 2 rfl rfl, mw 1 24 rfl rfl, mw 11 5 rfl rfl, by decide, by decide, by decide +kernel⟩, mw 11 3 rfl rfl, mw 11 4 rfl rfl, TX9, 3, tyX9, cl_X9⟩
theorem cb_X8_34 : CBV RX8 34 yX8_columnsOf cX8_columnsOf 2 (some .int) 1 9 := ⟨⟨mw 10 30 rfl rfl, mw 0 16 rfl rfl, mw 11 1 rfl rfl, by decide, by decide, by decide +kernel⟩, mw 10 31 rfl rfl, mw 11 0 rfl rfl, TX8, 3, tyX8, cl_X8⟩
theorem cb_X8_38 : CBV RX8 38 yX8_rowsOf cX8_rowsOf 2 (some .int) 1 9 := ⟨⟨mw 11 6 rfl rfl, mw 0 16 rfl rfl, mw 11 9 rfl rfl, by decide, by decide, by decide +kernel⟩, mw 11 7 rfl rfl, mw 11 8 rfl rfl, TX8, 3, tyX8, cl_X8⟩
theorem cb_X8_41 : CBV RX8 41 yX9_set cX9_set 5 none 3 10 := ⟨⟨mw 6 26 rfl rfl, mw 1 24 rfl rfl, mw 6 29 rfl rfl, by decide, by decide, by decide +kernel⟩, mw 6 27 rfl rfl, mw 6 28 rfl rfl, TX9, 3, tyX9, cl_X9⟩
theorem cb_X8_45 : CBV RX8 45 yX8_cellsOf cX8_cellsOf 2 (some .int) 1 9 := ⟨⟨mw 11 19 rfl rfl, mw 0 16 rfl rfl, mw 10 29 rfl rfl, by decide, by decide, by decide +kernel⟩, mw 10 27 rfl rfl, mw 10 28 rfl rfl, TX8, 3, tyX8, cl_X8⟩
theorem cb_X8_48 : CBV RX8 48 yX8_onCell cX8_onCell 3 (some .int) 2 9 := ⟨⟨mw 11 20 rfl rfl, mw 0 16 rfl rfl, mw 11 13 rfl rfl, by decide, by decide, by decide +kernel⟩, mw 11 11 rfl rfl, mw 11 12 rfl rfl, TX8, 3, tyX8, cl_X8⟩
theorem cb_X8_51 : CBV RX8 51 yX8_cellsWith cX8_cellsWith 5 (some .int) 2 9 := ⟨⟨mw 13 16 rfl rfl, mw 0 16 rfl rfl, mw 11 18 rfl rfl, by decide, by decide, by decide +kernel⟩, mw 11 16 rfl rfl, mw 11 17 rfl rfl, TX8, 3, tyX8, cl_X8⟩
theorem cb_X8_54 : CBV RX8 54 yX9_append cX9_append 1 (some .int) 0 10 := ⟨⟨mw 6 21 rfl rfl, mw 1 24 rfl rfl, mw 6 24 rfl rfl, by decide, by decide, by decide +kernel⟩, mw 6 22 rfl rfl, mw 6 23 rfl rfl, TX9, 3, tyX9, cl_X9⟩
theorem cb_X8_58 : CBV RX8 58 yX8_setCell cX8_setCell 4 none 3 9 := ⟨⟨mw 6 30 rfl rfl, mw 0 16 rfl rfl, mw 7 1 rfl rfl, by decide, by decide, by decide +kernel⟩, mw 6 31 rfl rfl, mw 7 0 rfl rfl, TX8, 3, tyX8, cl_X8⟩
theorem cb_X8_61 : CBS RX8 61 yX3_quarterTurned cX3_quarterTurned 6 (some .int) 3 := ⟨⟨mw 9 1 rfl rfl, mw 8 15 rfl rfl, mw 9 3 rfl rfl, by decide, by decide, by decide +kernel⟩, mw 9 2 rfl rfl⟩
theorem cb_X8_67 : CBS RX8 67 yJ6_bitCount_0f7a4 cJ6_bitCount_0f7a4 1 (some .int) 1 := ⟨⟨mw 16 18 rfl rfl, mw 16 20 rfl rfl, mw 16 21 rfl rfl, by decide, by decide, by decide +kernel⟩, mw 16 19 rfl rfl⟩
theorem cb_X8_72 : CBV RX8 72 yX8_isLikeAnEarlier cX8_isLikeAnEarlier 4 (some .boolean) 2 9 := ⟨⟨mw 16 29 rfl rfl, mw 0 16 rfl rfl, mw 17 0 rfl rfl, by decide, by decide, by decide +kernel⟩, mw 16 30 rfl rfl, mw 16 31 rfl rfl, TX8, 3, tyX8, cl_X8⟩
theorem cb_X8_76 : CBV RX8 76 yX8_columnsAfter cX8_columnsAfter 3 (some .int) 2 9 := ⟨⟨mw 17 1 rfl rfl, mw 0 16 rfl rfl, mw 17 4 rfl rfl, by decide, by decide, by decide +kernel⟩, mw 17 2 rfl rfl, mw 17 3 rfl rfl, TX8, 3, tyX8, cl_X8⟩
theorem cb_X8_79 : CBV RX8 79 yX8_coveredAfter cX8_coveredAfter 3 (some .int) 2 9 := ⟨⟨mw 17 5 rfl rfl, mw 0 16 rfl rfl, mw 17 8 rfl rfl, by decide, by decide, by decide +kernel⟩, mw 17 6 rfl rfl, mw 17 7 rfl rfl, TX8, 3, tyX8, cl_X8⟩
theorem cb_X8_82 : CBV RX8 82 yX8_rowsAfter cX8_rowsAfter 3 (some .int) 2 9 := ⟨⟨mw 20 19 rfl rfl, mw 0 16 rfl rfl, mw 19 19 rfl rfl, by decide, by decide, by decide +kernel⟩, mw 19 17 rfl rfl, mw 19 18 rfl rfl, TX8, 3, tyX8, cl_X8⟩
theorem cb_X8_85 : CBS RX8 85 yX3_covers cX3_covers 4 (some .boolean) 4 := ⟨⟨mw 20 20 rfl rfl, mw 8 15 rfl rfl, mw 9 6 rfl rfl, by decide, by decide, by decide +kernel⟩, mw 9 5 rfl rfl⟩
theorem mb_X8_89 : MB RX8 89 Lib.Math.min.name Lib.Math.min.code 2 := ⟨mw 21 30 rfl rfl, mw 5 29 rfl rfl, mw 5 30 rfl rfl, mw 5 31 rfl rfl⟩
theorem cb_X8_94 : CBV RX8 94 yX9_remove cX9_remove 3 none 1 10 := ⟨⟨mw 21 31 rfl rfl, mw 1 24 rfl rfl, mw 22 2 rfl rfl, by decide, by decide, by decide +kernel⟩, mw 22 0 rfl rfl, mw 22 1 rfl rfl, TX9, 3, tyX9, cl_X9⟩
theorem cb_X8_98 : CBV RX8 98 yX9_size cX9_size 1 (some .int) 0 10 := ⟨⟨mw 22 4 rfl rfl, mw 1 24 rfl rfl, mw 22 7 rfl rfl, by decide, by decide, by decide +kernel⟩, mw 22 5 rfl rfl, mw 22 6 rfl rfl, TX9, 3, tyX9, cl_X9⟩
theorem cb_X8_101 : CBV RX8 101 yX8_sizeOf cX8_sizeOf 2 (some .int) 1 9 := ⟨⟨mw 23 15 rfl rfl, mw 0 16 rfl rfl, mw 16 17 rfl rfl, by decide, by decide, by decide +kernel⟩, mw 16 15 rfl rfl, mw 16 16 rfl rfl, TX8, 3, tyX8, cl_X8⟩
theorem cb_X8_104 : CBV RX8 104 yX8_onPlace cX8_onPlace 6 (some .int) 3 9 := ⟨⟨mw 13 26 rfl rfl, mw 0 16 rfl rfl, mw 13 29 rfl rfl, by decide, by decide, by decide +kernel⟩, mw 13 27 rfl rfl, mw 13 28 rfl rfl, TX8, 3, tyX8, cl_X8⟩
theorem cb_X8_107 : CBS RX8 107 yX8_isCut cX8_isCut 4 (some .boolean) 3 := ⟨⟨mw 13 30 rfl rfl, mw 0 16 rfl rfl, mw 14 0 rfl rfl, by decide, by decide, by decide +kernel⟩, mw 13 31 rfl rfl⟩
theorem cb_X8_111 : CBV RX8 111 yX8_otherPartsBeside cX8_otherPartsBeside 5 (some .int) 4 9 := ⟨⟨mw 23 20 rfl rfl, mw 0 16 rfl rfl, mw 23 23 rfl rfl, by decide, by decide, by decide +kernel⟩, mw 23 21 rfl rfl, mw 23 22 rfl rfl, TX8, 3, tyX8, cl_X8⟩
theorem cb_X8_115 : CBS RX8 115 yX8_otherPart cX8_otherPart 2 (some .int) 2 := ⟨⟨mw 23 24 rfl rfl, mw 0 16 rfl rfl, mw 23 26 rfl rfl, by decide, by decide, by decide +kernel⟩, mw 23 25 rfl rfl⟩
section
variable {p : Program} {l : Launch} {e : Env} {s : State} {m : MethodId} {args : Array Value} {below : List Frame} {meth : Method} {c : Code} {Q : State → Prop} {g : Geo}
def I_X8_copyFrom : List (Nat × Instr × Nat) := [(0, .aload_n 0, 1), (1, .getfield 14, 3), (4, .aload_n 1, 1), (5, .getfield 14, 3), (8, .invokevirtual 26, 3), (11, .aload_n 0, 1), (12, .getfield 20, 3), (15, .aload_n 1, 1), (16, .getfield 20, 3), (19, .invokevirtual 26, 3), (22, .aload_n 0, 1), (23, .getfield 23, 3), (26, .aload_n 1, 1), (27, .getfield 23, 3), (30, .invokevirtual 26, 3), (33, .return_, 1)]
set_option maxRecDepth 100000 in
theorem T_X8_copyFrom : ∀ q ∈ I_X8_copyFrom, decode cX8_copyFrom q.1 = .ok (q.2.1, q.2.2) := by decide +kernel
def f_X8_copyFrom_0 (t0 : Nat) (t1 : Nat) (σ : St) : Option (St) :=
  (f_X9_copyFrom (t0 + 1) (t1 + 1) σ).bind fun q1 => (f_X9_copyFrom (t0 + 3) (t1 + 3) q1).bind fun q2 => (f_X9_copyFrom (t0 + 5) (t1 + 5) q2).bind fun q3 => some q3
set_option maxHeartbeats 4000000 in
set_option maxRecDepth 100000 in
theorem w_X8_copyFrom_0 (X : Cx g RX8 cX8_copyFrom 2 none p s m args meth c) (t0 : Nat) (t1 : Nat) (hk0 : kd t0 = 9) (hk1 : kd t1 = 9) (σ : St) {w : St} (KR : ∀ (H : Heap) (locs : List Loc) (ls : Array Slot) (pc : Nat), Wd g s w H locs → decode cX8_copyFrom pc = .ok (.return_, 1) → W p l e (rmm 2 61) s m args below meth c H locs 0 0 Q (F0 m pc ls [])) {H : Heap} {locs : List Loc} {ls : Array Slot} (Y : Wd g s σ H locs) (hl : lv_has ls 2 [(0, .ref (g.2.2 (t0))), (1, .ref (g.2.2 (t1)))]) (h : f_X8_copyFrom_0 t0 t1 σ = some w) : W p l e (rmm 2 61) s m args below meth c H locs 0 0 Q (F0 m 0 ls []) := by
  unfold f_X8_copyFrom_0 at h
  refine lv_aload_n X.1 X.2.1 (dk T_X8_copyFrom 0 rfl) rfl (lv_at hl 0 rfl) ?_
  refine gg X Y fl_X8_14 hk0 rfl (dk T_X8_copyFrom 1 rfl) ?_
  refine lv_aload_n X.1 X.2.1 (dk T_X8_copyFrom 2 rfl) rfl (lv_at hl 1 rfl) ?_
  refine gg X Y fl_X8_14 hk1 rfl (dk T_X8_copyFrom 3 rfl) ?_
  obtain ⟨q1, hq1, h⟩ := bs h
  refine gvV (rest := []) X Y (c_X9_copyFrom (t0 + 1) (t1 + 1) (ks1 hk0) (ks1 hk1) σ hq1) cb_X8_26 (ks1 hk0) hl.1 rfl rfl (Nat.le_of_ble_eq_true rfl) ⟨Nat.le_of_ble_eq_true rfl, Nat.le_of_ble_eq_true rfl⟩ (dk T_X8_copyFrom 4 rfl) (fun H locs Y => ?_)
  refine lv_aload_n X.1 X.2.1 (dk T_X8_copyFrom 5 rfl) rfl (lv_at hl 0 rfl) ?_
  refine gg X Y fl_X8_20 hk0 rfl (dk T_X8_copyFrom 6 rfl) ?_
  refine lv_aload_n X.1 X.2.1 (dk T_X8_copyFrom 7 rfl) rfl (lv_at hl 1 rfl) ?_
  refine gg X Y fl_X8_20 hk1 rfl (dk T_X8_copyFrom 8 rfl) ?_
  obtain ⟨q2, hq2, h⟩ := bs h
  refine gvV (rest := []) X Y (c_X9_copyFrom (t0 + 3) (t1 + 3) (ks3 hk0) (ks3 hk1) q1 hq2) cb_X8_26 (ks3 hk0) hl.1 rfl rfl (Nat.le_of_ble_eq_true rfl) ⟨Nat.le_of_ble_eq_true rfl, Nat.le_of_ble_eq_true rfl⟩ (dk T_X8_copyFrom 9 rfl) (fun H locs Y => ?_)
  refine lv_aload_n X.1 X.2.1 (dk T_X8_copyFrom 10 rfl) rfl (lv_at hl 0 rfl) ?_
  refine gg X Y fl_X8_23 hk0 rfl (dk T_X8_copyFrom 11 rfl) ?_
  refine lv_aload_n X.1 X.2.1 (dk T_X8_copyFrom 12 rfl) rfl (lv_at hl 1 rfl) ?_
  refine gg X Y fl_X8_23 hk1 rfl (dk T_X8_copyFrom 13 rfl) ?_
  obtain ⟨q3, hq3, h⟩ := bs h
  refine gvV (rest := []) X Y (c_X9_copyFrom (t0 + 5) (t1 + 5) (ks5 hk0) (ks5 hk1) q2 hq3) cb_X8_26 (ks5 hk0) hl.1 rfl rfl (Nat.le_of_ble_eq_true rfl) ⟨Nat.le_of_ble_eq_true rfl, Nat.le_of_ble_eq_true rfl⟩ (dk T_X8_copyFrom 14 rfl) (fun H locs Y => ?_)
  obtain rfl := Option.some.inj h
  exact KR _ _ _ _ Y (dk T_X8_copyFrom 15 rfl)
def f_X8_copyFrom (t0 : Nat) (t1 : Nat) (σ : St) : Option (St) := f_X8_copyFrom_0 t0 t1 σ
set_option maxHeartbeats 4000000 in
set_option maxRecDepth 100000 in
theorem c_X8_copyFrom {l : Launch} {g : Geo} (t0 : Nat) (t1 : Nat) (hk0 : kd t0 = 9) (hk1 : kd t1 = 9) (σ : St) {w : St} (h : f_X8_copyFrom t0 t1 σ = some w) : CtV l yX8_copyFrom cX8_copyFrom 2 none (rmm 2 61) g [.ref (g.2.2 (t0)), .ref (g.2.2 (t1))] σ w := enV (by decide) rfl (Nat.le_of_ble_eq_true rfl) (fun p e s m args below meth c Q X Y ls hl KR => w_X8_copyFrom_0 X t0 t1 hk0 hk1 σ KR Y hl h)
def I_X8_setCell : List (Nat × Instr × Nat) := [(0, .aload_n 0, 1), (1, .getfield 14, 3), (4, .iload_n 1, 1), (5, .iconst 3, 1), (6, .iload_n 2, 1), (7, .iadd, 1), (8, .iload_n 3, 1), (9, .invokevirtual 41, 3), (12, .return_, 1)]
set_option maxRecDepth 100000 in
theorem T_X8_setCell : ∀ q ∈ I_X8_setCell, decode cX8_setCell q.1 = .ok (q.2.1, q.2.2) := by decide +kernel
def f_X8_setCell_0 (t0 : Nat) (x1 : Int32) (x2 : Int32) (x3 : Int32) (σ : St) : Option (St) :=
  (f_X9_set (t0 + 1) x1 (3 + x2) x3 σ).bind fun q1 => some q1
set_option maxHeartbeats 4000000 in
set_option maxRecDepth 100000 in
theorem w_X8_setCell_0 (X : Cx g RX8 cX8_setCell 4 none p s m args meth c) (t0 : Nat) (hk0 : kd t0 = 9) (x1 : Int32) (x2 : Int32) (x3 : Int32) (σ : St) {w : St} (KR : ∀ (H : Heap) (locs : List Loc) (ls : Array Slot) (pc : Nat), Wd g s w H locs → decode cX8_setCell pc = .ok (.return_, 1) → W p l e (rmm 1 24) s m args below meth c H locs 0 0 Q (F0 m pc ls [])) {H : Heap} {locs : List Loc} {ls : Array Slot} (Y : Wd g s σ H locs) (hl : lv_has ls 4 [(0, .ref (g.2.2 (t0))), (1, .int (x1)), (2, .int (x2)), (3, .int (x3))]) (h : f_X8_setCell_0 t0 x1 x2 x3 σ = some w) : W p l e (rmm 1 24) s m args below meth c H locs 0 0 Q (F0 m 0 ls []) := by
  unfold f_X8_setCell_0 at h
  refine lv_aload_n X.1 X.2.1 (dk T_X8_setCell 0 rfl) rfl (lv_at hl 0 rfl) ?_
  refine gg X Y fl_X8_14 hk0 rfl (dk T_X8_setCell 1 rfl) ?_
  refine lv_iload_n X.1 X.2.1 (dk T_X8_setCell 2 rfl) rfl (lv_at hl 1 rfl) ?_
  refine lv_iconst (v := 3) X.1 X.2.1 (dk T_X8_setCell 3 rfl) ic_3 ?_
  refine lv_iload_n X.1 X.2.1 (dk T_X8_setCell 4 rfl) rfl (lv_at hl 2 rfl) ?_
  refine lv_iadd X.1 X.2.1 (dk T_X8_setCell 5 rfl) ?_
  refine lv_iload_n X.1 X.2.1 (dk T_X8_setCell 6 rfl) rfl (lv_at hl 3 rfl) ?_
  obtain ⟨q1, hq1, h⟩ := bs h
  refine gvV (rest := []) X Y (c_X9_set (t0 + 1) (ks1 hk0) x1 (3 + x2) x3 σ hq1) cb_X8_41 (ks1 hk0) hl.1 rfl rfl (Nat.le_of_ble_eq_true rfl) ⟨Nat.le_of_ble_eq_true rfl, Nat.le_of_ble_eq_true rfl⟩ (dk T_X8_setCell 7 rfl) (fun H locs Y => ?_)
  obtain rfl := Option.some.inj h
  exact KR _ _ _ _ Y (dk T_X8_setCell 8 rfl)
def f_X8_setCell (t0 : Nat) (x1 : Int32) (x2 : Int32) (x3 : Int32) (σ : St) : Option (St) := f_X8_setCell_0 t0 x1 x2 x3 σ
set_option maxHeartbeats 4000000 in
set_option maxRecDepth 100000 in
theorem c_X8_setCell {l : Launch} {g : Geo} (t0 : Nat) (hk0 : kd t0 = 9) (x1 : Int32) (x2 : Int32) (x3 : Int32) (σ : St) {w : St} (h : f_X8_setCell t0 x1 x2 x3 σ = some w) : CtV l yX8_setCell cX8_setCell 4 none (rmm 1 24) g [.ref (g.2.2 (t0)), .int (x1), .int (x2), .int (x3)] σ w := enV (by decide) rfl (Nat.le_of_ble_eq_true rfl) (fun p e s m args below meth c Q X Y ls hl KR => w_X8_setCell_0 X t0 hk0 x1 x2 x3 σ KR Y hl h)
def I_X8_createSheet : List (Nat × Instr × Nat) := [(0, .aload_n 0, 1), (1, .getfield 14, 3), (4, .invokevirtual 54, 3), (7, .istore 5, 2), (9, .aload_n 0, 1), (10, .getfield 14, 3), (13, .iload 5, 2), (15, .iconst 0, 1), (16, .iload_n 1, 1), (17, .invokevirtual 41, 3), (20, .aload_n 0, 1), (21, .getfield 14, 3), (24, .iload 5, 2), (26, .iconst 1, 1), (27, .iload_n 2, 1), (28, .invokevirtual 41, 3), (31, .aload_n 0, 1), (32, .getfield 14, 3), (35, .iload 5, 2), (37, .iconst 2, 1), (38, .iload_n 3, 1), (39, .invokevirtual 41, 3), (42, .iconst 0, 1), (43, .istore 6, 2), (45, .iload 6, 2), (47, .iload_n 1, 1), (48, .iload_n 2, 1), (49, .imul, 1), (50, .if_icmp .ge 19, 3), (53, .aload_n 0, 1), (54, .iload 5, 2), (56, .iload 6, 2), (58, .iload 4, 2), (60, .invokevirtual 58, 3), (63, .iinc 6 1, 3), (66, .goto (-21), 3), (69, .iload 5, 2), (71, .ireturn, 1)]
set_option maxRecDepth 100000 in
theorem T_X8_createSheet : ∀ q ∈ I_X8_createSheet, decode cX8_createSheet q.1 = .ok (q.2.1, q.2.2) := by decide +kernel
def f_X8_createSheet_l45 (t0 : Nat) (x1 : Int32) (x2 : Int32) (x4 : Int32) (x5 : Int32) (z : Int32 × St) : Option ((Int32 × St) ⊕ (St)) :=
  if (x1 * x2) ≤ z.1 then some (.inr z.2) else (f_X8_setCell t0 x5 z.1 x4 z.2).bind fun q6 => some (.inl (z.1 + 1, q6))
set_option maxHeartbeats 4000000 in
set_option maxRecDepth 100000 in
theorem w_X8_createSheet_l45 (X : Cx g RX8 cX8_createSheet 7 (some .int) p s m args meth c) (t0 : Nat) (hk0 : kd t0 = 9) (x1 : Int32) (x2 : Int32) (x4 : Int32) (x5 : Int32) (σ : St) {r : St} (KX0 : ∀ (v : St), r = v → ∀ (H : Heap) (locs : List Loc) (ls : Array Slot), Wd g s v H locs → lv_has ls 7 [(5, .int (x5))] → W p l e (rmm 2 47) s m args below meth c H locs 0 0 Q (F0 m 69 ls [])) : ∀ (n : Nat) (z : Int32 × St) {H : Heap} {locs : List Loc} {ls : Array Slot}, Wd g s z.2 H locs → lv_has ls 7 [(0, .ref (g.2.2 (t0))), (1, .int (x1)), (2, .int (x2)), (4, .int (x4)), (5, .int (x5)), (6, .int (z.1))] → lp (f_X8_createSheet_l45 t0 x1 x2 x4 x5) n z = some r → W p l e (rmm 2 47) s m args below meth c H locs 0 0 Q (F0 m 45 ls []) := by
  intro n
  induction n with
  | zero => intro z H locs ls Y hl h; cases h
  | succ n ih =>
    intro z H locs ls Y hl h
    obtain ⟨w, h, hw⟩ := lps h
    have KB : ∀ (v0_ : Int32) (v1_ : St), w = .inl (v0_, v1_) → ∀ (H : Heap) (locs : List Loc) (ls : Array Slot), Wd g s v1_ H locs → lv_has ls 7 [(0, .ref (g.2.2 (t0))), (1, .int (x1)), (2, .int (x2)), (4, .int (x4)), (5, .int (x5)), (6, .int (v0_))] → W p l e (rmm 2 47) s m args below meth c H locs 0 0 Q (F0 m 45 ls []) := fun v0_ v1_ e H locs ls Y hl => ih (v0_, v1_) Y hl (lpl hw e)
    have KX0 := fun (v : St) (e : w = .inr v) => KX0 v (lpr hw e)
    unfold f_X8_createSheet_l45 at h
    refine lv_iload X.1 X.2.1 (dk T_X8_createSheet 24 rfl) (lv_at hl 5 rfl) ?_
    refine lv_iload_n X.1 X.2.1 (dk T_X8_createSheet 25 rfl) rfl (lv_at hl 1 rfl) ?_
    refine lv_iload_n X.1 X.2.1 (dk T_X8_createSheet 26 rfl) rfl (lv_at hl 2 rfl) ?_
    refine lv_imul X.1 X.2.1 (dk T_X8_createSheet 27 rfl) ?_
    refine lv_icmp_ge (tgt := 69) X.1 X.2.1 (dk T_X8_createSheet 28 rfl) rfl (fun c5 => ?_) (fun c5 => ?_)
    · replace h := ipos c5 h
      exact KX0 z.2 (Option.some.inj h).symm _ _ _ Y (lv_sub hl [4] rfl)
    · replace h := ineg c5 h
      refine lv_aload_n X.1 X.2.1 (dk T_X8_createSheet 29 rfl) rfl (lv_at hl 0 rfl) ?_
      refine lv_iload X.1 X.2.1 (dk T_X8_createSheet 30 rfl) (lv_at hl 4 rfl) ?_
      refine lv_iload X.1 X.2.1 (dk T_X8_createSheet 31 rfl) (lv_at hl 5 rfl) ?_
      refine lv_iload X.1 X.2.1 (dk T_X8_createSheet 32 rfl) (lv_at hl 3 rfl) ?_
      obtain ⟨q6, hq6, h⟩ := bs h
      refine gvV (rest := []) X Y (c_X8_setCell t0 hk0 x5 z.1 x4 z.2 hq6) cb_X8_58 hk0 hl.1 rfl rfl (Nat.le_of_ble_eq_true rfl) ⟨Nat.le_of_ble_eq_true rfl, Nat.le_of_ble_eq_true rfl⟩ (dk T_X8_createSheet 33 rfl) (fun H locs Y => ?_)
      refine lv_iinc (v := z.1 + 1) (lv' := [(6, .int (z.1 + 1)), (0, .ref (g.2.2 (t0))), (1, .int (x1)), (2, .int (x2)), (4, .int (x4)), (5, .int (x5))]) X.1 X.2.1 (dk T_X8_createSheet 34 rfl) hl (k := 5) rfl (icx ic_1) (Nat.le_of_ble_eq_true rfl) rfl (fun ls hl => ?_)
      refine lv_goto (tgt := 45) X.1 X.2.1 (dk T_X8_createSheet 35 rfl) rfl ?_
      exact KB (z.1 + 1) q6 (Option.some.inj h).symm _ _ _ Y (lv_sub hl [1, 2, 3, 4, 5, 0] rfl)
def f_X8_createSheet_0 (t0 : Nat) (x1 : Int32) (x2 : Int32) (x3 : Int32) (x4 : Int32) (σ : St) : Option (Int32 × St) :=
  (f_X9_append (t0 + 1) σ).bind fun q1 => (f_X9_set (t0 + 1) q1.1 0 x1 q1.2).bind fun q2 => (f_X9_set (t0 + 1) q1.1 1 x2 q2).bind fun q3 => (f_X9_set (t0 + 1) q1.1 2 x3 q3).bind fun q4 => (lp (f_X8_createSheet_l45 t0 x1 x2 x4 q1.1) FU (0, q4)).bind fun q7 => some (q1.1, q7)
set_option maxHeartbeats 4000000 in
set_option maxRecDepth 100000 in
theorem w_X8_createSheet_0 (X : Cx g RX8 cX8_createSheet 7 (some .int) p s m args meth c) (t0 : Nat) (hk0 : kd t0 = 9) (x1 : Int32) (x2 : Int32) (x3 : Int32) (x4 : Int32) (σ : St) {w : Int32 × St} (KR : ∀ (H : Heap) (locs : List Loc) (ls : Array Slot) (pc : Nat), Wd g s w.2 H locs → decode cX8_createSheet pc = .ok (.ireturn, 1) → W p l e (rmm 2 47) s m args below meth c H locs 0 0 Q (F0 m pc ls [.int (w.1)])) {H : Heap} {locs : List Loc} {ls : Array Slot} (Y : Wd g s σ H locs) (hl : lv_has ls 7 [(0, .ref (g.2.2 (t0))), (1, .int (x1)), (2, .int (x2)), (3, .int (x3)), (4, .int (x4))]) (h : f_X8_createSheet_0 t0 x1 x2 x3 x4 σ = some w) : W p l e (rmm 2 47) s m args below meth c H locs 0 0 Q (F0 m 0 ls []) := by
  unfold f_X8_createSheet_0 at h
  refine lv_aload_n X.1 X.2.1 (dk T_X8_createSheet 0 rfl) rfl (lv_at hl 0 rfl) ?_
  refine gg X Y fl_X8_14 hk0 rfl (dk T_X8_createSheet 1 rfl) ?_
  obtain ⟨q1, hq1, h⟩ := bs h
  refine gvI (rest := []) X Y (c_X9_append (t0 + 1) (ks1 hk0) σ hq1) cb_X8_54 (ks1 hk0) hl.1 rfl rfl (Nat.le_of_ble_eq_true rfl) ⟨Nat.le_of_ble_eq_true rfl, Nat.le_of_ble_eq_true rfl⟩ (dk T_X8_createSheet 2 rfl) (fun H locs Y => ?_)
  refine lv_istore (lv' := [(5, .int (q1.1)), (0, .ref (g.2.2 (t0))), (1, .int (x1)), (2, .int (x2)), (3, .int (x3)), (4, .int (x4))]) X.1 X.2.1 (dk T_X8_createSheet 3 rfl) hl (Nat.le_of_ble_eq_true rfl) rfl (fun ls hl => ?_)
  refine lv_aload_n X.1 X.2.1 (dk T_X8_createSheet 4 rfl) rfl (lv_at hl 1 rfl) ?_
  refine gg X Y fl_X8_14 hk0 rfl (dk T_X8_createSheet 5 rfl) ?_
  refine lv_iload X.1 X.2.1 (dk T_X8_createSheet 6 rfl) (lv_at hl 0 rfl) ?_
  refine lv_iconst (v := 0) X.1 X.2.1 (dk T_X8_createSheet 7 rfl) ic_0 ?_
  refine lv_iload_n X.1 X.2.1 (dk T_X8_createSheet 8 rfl) rfl (lv_at hl 2 rfl) ?_
  obtain ⟨q2, hq2, h⟩ := bs h
  refine gvV (rest := []) X Y (c_X9_set (t0 + 1) (ks1 hk0) q1.1 0 x1 q1.2 hq2) cb_X8_41 (ks1 hk0) hl.1 rfl rfl (Nat.le_of_ble_eq_true rfl) ⟨Nat.le_of_ble_eq_true rfl, Nat.le_of_ble_eq_true rfl⟩ (dk T_X8_createSheet 9 rfl) (fun H locs Y => ?_)
  refine lv_aload_n X.1 X.2.1 (dk T_X8_createSheet 10 rfl) rfl (lv_at hl 1 rfl) ?_
  refine gg X Y fl_X8_14 hk0 rfl (dk T_X8_createSheet 11 rfl) ?_
  refine lv_iload X.1 X.2.1 (dk T_X8_createSheet 12 rfl) (lv_at hl 0 rfl) ?_
  refine lv_iconst (v := 1) X.1 X.2.1 (dk T_X8_createSheet 13 rfl) ic_1 ?_
  refine lv_iload_n X.1 X.2.1 (dk T_X8_createSheet 14 rfl) rfl (lv_at hl 3 rfl) ?_
  obtain ⟨q3, hq3, h⟩ := bs h
  refine gvV (rest := []) X Y (c_X9_set (t0 + 1) (ks1 hk0) q1.1 1 x2 q2 hq3) cb_X8_41 (ks1 hk0) hl.1 rfl rfl (Nat.le_of_ble_eq_true rfl) ⟨Nat.le_of_ble_eq_true rfl, Nat.le_of_ble_eq_true rfl⟩ (dk T_X8_createSheet 15 rfl) (fun H locs Y => ?_)
  refine lv_aload_n X.1 X.2.1 (dk T_X8_createSheet 16 rfl) rfl (lv_at hl 1 rfl) ?_
  refine gg X Y fl_X8_14 hk0 rfl (dk T_X8_createSheet 17 rfl) ?_
  refine lv_iload X.1 X.2.1 (dk T_X8_createSheet 18 rfl) (lv_at hl 0 rfl) ?_
  refine lv_iconst (v := 2) X.1 X.2.1 (dk T_X8_createSheet 19 rfl) ic_2 ?_
  refine lv_iload_n X.1 X.2.1 (dk T_X8_createSheet 20 rfl) rfl (lv_at hl 4 rfl) ?_
  obtain ⟨q4, hq4, h⟩ := bs h
  refine gvV (rest := []) X Y (c_X9_set (t0 + 1) (ks1 hk0) q1.1 2 x3 q3 hq4) cb_X8_41 (ks1 hk0) hl.1 rfl rfl (Nat.le_of_ble_eq_true rfl) ⟨Nat.le_of_ble_eq_true rfl, Nat.le_of_ble_eq_true rfl⟩ (dk T_X8_createSheet 21 rfl) (fun H locs Y => ?_)
  refine lv_iconst (v := 0) X.1 X.2.1 (dk T_X8_createSheet 22 rfl) ic_0 ?_
  refine lv_istore (lv' := [(6, .int (0)), (5, .int (q1.1)), (0, .ref (g.2.2 (t0))), (1, .int (x1)), (2, .int (x2)), (3, .int (x3)), (4, .int (x4))]) X.1 X.2.1 (dk T_X8_createSheet 23 rfl) hl (Nat.le_of_ble_eq_true rfl) rfl (fun ls hl => ?_)
  obtain ⟨q7, hq7, h⟩ := bs h
  refine w_X8_createSheet_l45 X t0 hk0 x1 x2 x4 q1.1 σ (fun v e H locs ls Y hl => ?_) FU (0, q4) Y (lv_sub hl [2, 3, 4, 6, 1, 0] rfl) hq7
  · obtain rfl := e
    refine lv_iload X.1 X.2.1 (dk T_X8_createSheet 36 rfl) (lv_at hl 0 rfl) ?_
    obtain rfl := Option.some.inj h
    exact KR _ _ _ _ Y (dk T_X8_createSheet 37 rfl)
def f_X8_createSheet (t0 : Nat) (x1 : Int32) (x2 : Int32) (x3 : Int32) (x4 : Int32) (σ : St) : Option (Int32 × St) := f_X8_createSheet_0 t0 x1 x2 x3 x4 σ
set_option maxHeartbeats 4000000 in
set_option maxRecDepth 100000 in
theorem c_X8_createSheet {l : Launch} {g : Geo} (t0 : Nat) (hk0 : kd t0 = 9) (x1 : Int32) (x2 : Int32) (x3 : Int32) (x4 : Int32) (σ : St) {w : Int32 × St} (h : f_X8_createSheet t0 x1 x2 x3 x4 σ = some w) : CtI l yX8_createSheet cX8_createSheet 7 (some .int) (rmm 2 47) g [.ref (g.2.2 (t0)), .int (x1), .int (x2), .int (x3), .int (x4)] σ w.1 w.2 := enI .int (by decide) rfl rfl (Nat.le_of_ble_eq_true rfl) (fun p e s m args below meth c Q X Y ls hl KR => w_X8_createSheet_0 X t0 hk0 x1 x2 x3 x4 σ KR Y hl h)
def I_X8_createShape : List (Nat × Instr × Nat) := [(0, .aload_n 0, 1), (1, .getfield 20, 3), (4, .invokevirtual 54, 3), (7, .istore 6, 2), (9, .aload_n 0, 1), (10, .getfield 20, 3), (13, .iload 6, 2), (15, .iconst 0, 1), (16, .iload_n 1, 1), (17, .invokevirtual 41, 3), (20, .aload_n 0, 1), (21, .getfield 20, 3), (24, .iload 6, 2), (26, .iconst 1, 1), (27, .iload_n 2, 1), (28, .invokevirtual 41, 3), (31, .aload_n 0, 1), (32, .getfield 20, 3), (35, .iload 6, 2), (37, .iconst 2, 1), (38, .iload_n 3, 1), (39, .invokevirtual 41, 3), (42, .aload_n 0, 1), (43, .getfield 20, 3), (46, .iload 6, 2), (48, .iconst 3, 1), (49, .iload 4, 2), (51, .invokevirtual 41, 3), (54, .aload_n 0, 1), (55, .getfield 20, 3), (58, .iload 6, 2), (60, .iconst 4, 1), (61, .iload 5, 2), (63, .invokevirtual 41, 3), (66, .iload_n 3, 1), (67, .istore 7, 2), (69, .iconst 0, 1), (70, .istore 8, 2), (72, .iload 8, 2), (74, .iconst 4, 1), (75, .if_icmp .ge 65, 3), (78, .aload_n 0, 1), (79, .getfield 20, 3), (82, .iload 6, 2), (84, .iconst 5, 1), (85, .iload 8, 2), (87, .iadd, 1), (88, .iload 7, 2), (90, .invokevirtual 41, 3), (93, .iload 8, 2), (95, .iconst 2, 1), (96, .irem, 1), (97, .ifCond .ne 7, 3), (100, .iconst 1, 1), (101, .goto 4, 3), (104, .iconst 0, 1), (105, .istore 9, 2), (107, .iload 9, 2), (109, .ifCond .eq 7, 3), (112, .iload_n 1, 1), (113, .goto 4, 3), (116, .iload_n 2, 1), (117, .iload 9, 2), (119, .ifCond .eq 7, 3), (122, .iload_n 2, 1), (123, .goto 4, 3), (126, .iload_n 1, 1), (127, .iload 7, 2), (129, .invokestatic 61, 3), (132, .istore 7, 2), (134, .iinc 8 1, 3), (137, .goto (-65), 3), (140, .iload 6, 2), (142, .ireturn, 1)]
set_option maxRecDepth 100000 in
theorem T_X8_createShape : ∀ q ∈ I_X8_createShape, decode cX8_createShape q.1 = .ok (q.2.1, q.2.2) := by decide +kernel
def f_X8_createShape_j127 (t0 : Nat) (x1 : Int32) (x2 : Int32) (x6 : Int32) (x7 : Int32) (x8 : Int32) (s0 : Int32) (s1 : Int32) (σ : St) : Option ((Int32 × Int32 × St) ⊕ (St)) :=
  (f_X3_quarterTurned s1 s0 x7).bind fun q13 => some (.inl (q13, x8 + 1, σ))
set_option maxHeartbeats 4000000 in
set_option maxRecDepth 100000 in
theorem w_X8_createShape_j127 (X : Cx g RX8 cX8_createShape 10 (some .int) p s m args meth c) (t0 : Nat) (hk0 : kd t0 = 9) (x1 : Int32) (x2 : Int32) (x6 : Int32) (x7 : Int32) (x8 : Int32) (s0 : Int32) (s1 : Int32) (σ : St) {w : (Int32 × Int32 × St) ⊕ (St)} (KB : ∀ (v0_ : Int32) (v1_ : Int32) (v2_ : St), w = .inl (v0_, v1_, v2_) → ∀ (H : Heap) (locs : List Loc) (ls : Array Slot), Wd g s v2_ H locs → lv_has ls 10 [(0, .ref (g.2.2 (t0))), (1, .int (x1)), (2, .int (x2)), (6, .int (x6)), (7, .int (v0_)), (8, .int (v1_))] → W p l e (rmm 2 48) s m args below meth c H locs 0 0 Q (F0 m 72 ls [])) (KX0 : ∀ (v : St), w = .inr v → ∀ (H : Heap) (locs : List Loc) (ls : Array Slot), Wd g s v H locs → lv_has ls 10 [(6, .int (x6))] → W p l e (rmm 2 48) s m args below meth c H locs 0 0 Q (F0 m 140 ls [])) {H : Heap} {locs : List Loc} {ls : Array Slot} (Y : Wd g s σ H locs) (hl : lv_has ls 10 [(0, .ref (g.2.2 (t0))), (1, .int (x1)), (2, .int (x2)), (6, .int (x6)), (7, .int (x7)), (8, .int (x8))]) (h : f_X8_createShape_j127 t0 x1 x2 x6 x7 x8 s0 s1 σ = some w) : W p l e (rmm 2 48) s m args below meth c H locs 0 0 Q (F0 m 127 ls [.int (s0), .int (s1)]) := by
  unfold f_X8_createShape_j127 at h
  refine lv_iload X.1 X.2.1 (dk T_X8_createShape 67 rfl) (lv_at hl 4 rfl) ?_
  obtain ⟨q13, hq13, h⟩ := bs h
  refine gsI (rest := []) X Y (c_X3_quarterTurned s1 s0 x7 σ hq13) cb_X8_61 hl.1 rfl rfl (Nat.le_of_ble_eq_true rfl) ⟨Nat.le_of_ble_eq_true rfl, Nat.le_of_ble_eq_true rfl⟩ (dk T_X8_createShape 68 rfl) (fun H locs Y => ?_)
  refine lv_istore (lv' := [(7, .int (q13)), (0, .ref (g.2.2 (t0))), (1, .int (x1)), (2, .int (x2)), (6, .int (x6)), (8, .int (x8))]) X.1 X.2.1 (dk T_X8_createShape 69 rfl) hl (Nat.le_of_ble_eq_true rfl) rfl (fun ls hl => ?_)
  refine lv_iinc (v := x8 + 1) (lv' := [(8, .int (x8 + 1)), (7, .int (q13)), (0, .ref (g.2.2 (t0))), (1, .int (x1)), (2, .int (x2)), (6, .int (x6))]) X.1 X.2.1 (dk T_X8_createShape 70 rfl) hl (k := 5) rfl (icx ic_1) (Nat.le_of_ble_eq_true rfl) rfl (fun ls hl => ?_)
  refine lv_goto (tgt := 72) X.1 X.2.1 (dk T_X8_createShape 71 rfl) rfl ?_
  exact KB q13 (x8 + 1) σ (Option.some.inj h).symm _ _ _ Y (lv_sub hl [2, 3, 4, 5, 1, 0] rfl)
def f_X8_createShape_j117 (t0 : Nat) (x1 : Int32) (x2 : Int32) (x6 : Int32) (x7 : Int32) (x8 : Int32) (x9 : Int32) (s0 : Int32) (σ : St) : Option ((Int32 × Int32 × St) ⊕ (St)) :=
  if x9 = 0 then f_X8_createShape_j127 t0 x1 x2 x6 x7 x8 x1 s0 σ else f_X8_createShape_j127 t0 x1 x2 x6 x7 x8 x2 s0 σ
set_option maxHeartbeats 4000000 in
set_option maxRecDepth 100000 in
theorem w_X8_createShape_j117 (X : Cx g RX8 cX8_createShape 10 (some .int) p s m args meth c) (t0 : Nat) (hk0 : kd t0 = 9) (x1 : Int32) (x2 : Int32) (x6 : Int32) (x7 : Int32) (x8 : Int32) (x9 : Int32) (s0 : Int32) (σ : St) {w : (Int32 × Int32 × St) ⊕ (St)} (KB : ∀ (v0_ : Int32) (v1_ : Int32) (v2_ : St), w = .inl (v0_, v1_, v2_) → ∀ (H : Heap) (locs : List Loc) (ls : Array Slot), Wd g s v2_ H locs → lv_has ls 10 [(0, .ref (g.2.2 (t0))), (1, .int (x1)), (2, .int (x2)), (6, .int (x6)), (7, .int (v0_)), (8, .int (v1_))] → W p l e (rmm 2 48) s m args below meth c H locs 0 0 Q (F0 m 72 ls [])) (KX0 : ∀ (v : St), w = .inr v → ∀ (H : Heap) (locs : List Loc) (ls : Array Slot), Wd g s v H locs → lv_has ls 10 [(6, .int (x6))] → W p l e (rmm 2 48) s m args below meth c H locs 0 0 Q (F0 m 140 ls [])) {H : Heap} {locs : List Loc} {ls : Array Slot} (Y : Wd g s σ H locs) (hl : lv_has ls 10 [(0, .ref (g.2.2 (t0))), (1, .int (x1)), (2, .int (x2)), (6, .int (x6)), (7, .int (x7)), (8, .int (x8)), (9, .int (x9))]) (h : f_X8_createShape_j117 t0 x1 x2 x6 x7 x8 x9 s0 σ = some w) : W p l e (rmm 2 48) s m args below meth c H locs 0 0 Q (F0 m 117 ls [.int (s0)]) := by
  unfold f_X8_createShape_j117 at h
  refine lv_iload X.1 X.2.1 (dk T_X8_createShape 62 rfl) (lv_at hl 6 rfl) ?_
  refine lv_if_eq (tgt := 126) X.1 X.2.1 (dk T_X8_createShape 63 rfl) rfl (fun c12 => ?_) (fun c12 => ?_)
  · replace h := ipos c12 h
    refine lv_iload_n X.1 X.2.1 (dk T_X8_createShape 66 rfl) rfl (lv_at hl 1 rfl) ?_
    exact w_X8_createShape_j127 X t0 hk0 x1 x2 x6 x7 x8 x1 s0 σ KB KX0 Y (lv_sub hl [0, 1, 2, 3, 4, 5] rfl) h
  · replace h := ineg c12 h
    refine lv_iload_n X.1 X.2.1 (dk T_X8_createShape 64 rfl) rfl (lv_at hl 2 rfl) ?_
    refine lv_goto (tgt := 127) X.1 X.2.1 (dk T_X8_createShape 65 rfl) rfl ?_
    exact w_X8_createShape_j127 X t0 hk0 x1 x2 x6 x7 x8 x2 s0 σ KB KX0 Y (lv_sub hl [0, 1, 2, 3, 4, 5] rfl) h
def f_X8_createShape_j105 (t0 : Nat) (x1 : Int32) (x2 : Int32) (x6 : Int32) (x7 : Int32) (x8 : Int32) (s0 : Int32) (σ : St) : Option ((Int32 × Int32 × St) ⊕ (St)) :=
  if s0 = 0 then f_X8_createShape_j117 t0 x1 x2 x6 x7 x8 s0 x2 σ else f_X8_createShape_j117 t0 x1 x2 x6 x7 x8 s0 x1 σ
set_option maxHeartbeats 4000000 in
set_option maxRecDepth 100000 in
theorem w_X8_createShape_j105 (X : Cx g RX8 cX8_createShape 10 (some .int) p s m args meth c) (t0 : Nat) (hk0 : kd t0 = 9) (x1 : Int32) (x2 : Int32) (x6 : Int32) (x7 : Int32) (x8 : Int32) (s0 : Int32) (σ : St) {w : (Int32 × Int32 × St) ⊕ (St)} (KB : ∀ (v0_ : Int32) (v1_ : Int32) (v2_ : St), w = .inl (v0_, v1_, v2_) → ∀ (H : Heap) (locs : List Loc) (ls : Array Slot), Wd g s v2_ H locs → lv_has ls 10 [(0, .ref (g.2.2 (t0))), (1, .int (x1)), (2, .int (x2)), (6, .int (x6)), (7, .int (v0_)), (8, .int (v1_))] → W p l e (rmm 2 48) s m args below meth c H locs 0 0 Q (F0 m 72 ls [])) (KX0 : ∀ (v : St), w = .inr v → ∀ (H : Heap) (locs : List Loc) (ls : Array Slot), Wd g s v H locs → lv_has ls 10 [(6, .int (x6))] → W p l e (rmm 2 48) s m args below meth c H locs 0 0 Q (F0 m 140 ls [])) {H : Heap} {locs : List Loc} {ls : Array Slot} (Y : Wd g s σ H locs) (hl : lv_has ls 10 [(0, .ref (g.2.2 (t0))), (1, .int (x1)), (2, .int (x2)), (6, .int (x6)), (7, .int (x7)), (8, .int (x8))]) (h : f_X8_createShape_j105 t0 x1 x2 x6 x7 x8 s0 σ = some w) : W p l e (rmm 2 48) s m args below meth c H locs 0 0 Q (F0 m 105 ls [.int (s0)]) := by
  unfold f_X8_createShape_j105 at h
  refine lv_istore (lv' := [(9, .int (s0)), (0, .ref (g.2.2 (t0))), (1, .int (x1)), (2, .int (x2)), (6, .int (x6)), (7, .int (x7)), (8, .int (x8))]) X.1 X.2.1 (dk T_X8_createShape 56 rfl) hl (Nat.le_of_ble_eq_true rfl) rfl (fun ls hl => ?_)
  refine lv_iload X.1 X.2.1 (dk T_X8_createShape 57 rfl) (lv_at hl 0 rfl) ?_
  refine lv_if_eq (tgt := 116) X.1 X.2.1 (dk T_X8_createShape 58 rfl) rfl (fun c11 => ?_) (fun c11 => ?_)
  · replace h := ipos c11 h
    refine lv_iload_n X.1 X.2.1 (dk T_X8_createShape 61 rfl) rfl (lv_at hl 3 rfl) ?_
    exact w_X8_createShape_j117 X t0 hk0 x1 x2 x6 x7 x8 s0 x2 σ KB KX0 Y (lv_sub hl [1, 2, 3, 4, 5, 6, 0] rfl) h
  · replace h := ineg c11 h
    refine lv_iload_n X.1 X.2.1 (dk T_X8_createShape 59 rfl) rfl (lv_at hl 2 rfl) ?_
    refine lv_goto (tgt := 117) X.1 X.2.1 (dk T_X8_createShape 60 rfl) rfl ?_
    exact w_X8_createShape_j117 X t0 hk0 x1 x2 x6 x7 x8 s0 x1 σ KB KX0 Y (lv_sub hl [1, 2, 3, 4, 5, 6, 0] rfl) h
def f_X8_createShape_l72 (t0 : Nat) (x1 : Int32) (x2 : Int32) (x6 : Int32) (z : Int32 × Int32 × St) : Option ((Int32 × Int32 × St) ⊕ (St)) :=
  if 4 ≤ z.2.1 then some (.inr z.2.2) else (f_X9_set (t0 + 3) x6 (5 + z.2.1) z.1 z.2.2).bind fun q8 => chk (nz 2) (if (z.2.1 - z.2.1 / 2 * 2) = 0 then f_X8_createShape_j105 t0 x1 x2 x6 z.1 z.2.1 1 q8 else f_X8_createShape_j105 t0 x1 x2 x6 z.1 z.2.1 0 q8)
set_option maxHeartbeats 4000000 in
set_option maxRecDepth 100000 in
theorem w_X8_createShape_l72 (X : Cx g RX8 cX8_createShape 10 (some .int) p s m args meth c) (t0 : Nat) (hk0 : kd t0 = 9) (x1 : Int32) (x2 : Int32) (x6 : Int32) (σ : St) {r : St} (KX0 : ∀ (v : St), r = v → ∀ (H : Heap) (locs : List Loc) (ls : Array Slot), Wd g s v H locs → lv_has ls 10 [(6, .int (x6))] → W p l e (rmm 2 48) s m args below meth c H locs 0 0 Q (F0 m 140 ls [])) : ∀ (n : Nat) (z : Int32 × Int32 × St) {H : Heap} {locs : List Loc} {ls : Array Slot}, Wd g s z.2.2 H locs → lv_has ls 10 [(0, .ref (g.2.2 (t0))), (1, .int (x1)), (2, .int (x2)), (6, .int (x6)), (7, .int (z.1)), (8, .int (z.2.1))] → lp (f_X8_createShape_l72 t0 x1 x2 x6) n z = some r → W p l e (rmm 2 48) s m args below meth c H locs 0 0 Q (F0 m 72 ls []) := by
  intro n
  induction n with
  | zero => intro z H locs ls Y hl h; cases h
  | succ n ih =>
    intro z H locs ls Y hl h
    obtain ⟨w, h, hw⟩ := lps h
    have KB : ∀ (v0_ : Int32) (v1_ : Int32) (v2_ : St), w = .inl (v0_, v1_, v2_) → ∀ (H : Heap) (locs : List Loc) (ls : Array Slot), Wd g s v2_ H locs → lv_has ls 10 [(0, .ref (g.2.2 (t0))), (1, .int (x1)), (2, .int (x2)), (6, .int (x6)), (7, .int (v0_)), (8, .int (v1_))] → W p l e (rmm 2 48) s m args below meth c H locs 0 0 Q (F0 m 72 ls []) := fun v0_ v1_ v2_ e H locs ls Y hl => ih (v0_, v1_, v2_) Y hl (lpl hw e)
    have KX0 := fun (v : St) (e : w = .inr v) => KX0 v (lpr hw e)
    unfold f_X8_createShape_l72 at h
    refine lv_iload X.1 X.2.1 (dk T_X8_createShape 38 rfl) (lv_at hl 5 rfl) ?_
    refine lv_iconst (v := 4) X.1 X.2.1 (dk T_X8_createShape 39 rfl) ic_4 ?_
    refine lv_icmp_ge (tgt := 140) X.1 X.2.1 (dk T_X8_createShape 40 rfl) rfl (fun c7 => ?_) (fun c7 => ?_)
    · replace h := ipos c7 h
      exact KX0 z.2.2 (Option.some.inj h).symm _ _ _ Y (lv_sub hl [3] rfl)
    · replace h := ineg c7 h
      refine lv_aload_n X.1 X.2.1 (dk T_X8_createShape 41 rfl) rfl (lv_at hl 0 rfl) ?_
      refine gg X Y fl_X8_20 hk0 rfl (dk T_X8_createShape 42 rfl) ?_
      refine lv_iload X.1 X.2.1 (dk T_X8_createShape 43 rfl) (lv_at hl 3 rfl) ?_
      refine lv_iconst (v := 5) X.1 X.2.1 (dk T_X8_createShape 44 rfl) ic_5 ?_
      refine lv_iload X.1 X.2.1 (dk T_X8_createShape 45 rfl) (lv_at hl 5 rfl) ?_
      refine lv_iadd X.1 X.2.1 (dk T_X8_createShape 46 rfl) ?_
      refine lv_iload X.1 X.2.1 (dk T_X8_createShape 47 rfl) (lv_at hl 4 rfl) ?_
      obtain ⟨q8, hq8, h⟩ := bs h
      refine gvV (rest := []) X Y (c_X9_set (t0 + 3) (ks3 hk0) x6 (5 + z.2.1) z.1 z.2.2 hq8) cb_X8_41 (ks3 hk0) hl.1 rfl rfl (Nat.le_of_ble_eq_true rfl) ⟨Nat.le_of_ble_eq_true rfl, Nat.le_of_ble_eq_true rfl⟩ (dk T_X8_createShape 48 rfl) (fun H locs Y => ?_)
      refine lv_iload X.1 X.2.1 (dk T_X8_createShape 49 rfl) (lv_at hl 5 rfl) ?_
      refine lv_iconst (v := 2) X.1 X.2.1 (dk T_X8_createShape 50 rfl) ic_2 ?_
      obtain ⟨g9, h⟩ := gd h
      refine lv_irem X.1 X.2.1 (dk T_X8_createShape 51 rfl) (nzp g9) ?_
      refine lv_if_ne (tgt := 104) X.1 X.2.1 (dk T_X8_createShape 52 rfl) rfl (fun c10 => ?_) (fun c10 => ?_)
      · replace h := ineg c10 h
        refine lv_iconst (v := 0) X.1 X.2.1 (dk T_X8_createShape 55 rfl) ic_0 ?_
        exact w_X8_createShape_j105 X t0 hk0 x1 x2 x6 z.1 z.2.1 0 q8 KB KX0 Y (lv_sub hl [0, 1, 2, 3, 4, 5] rfl) h
      · replace h := ipos c10 h
        refine lv_iconst (v := 1) X.1 X.2.1 (dk T_X8_createShape 53 rfl) ic_1 ?_
        refine lv_goto (tgt := 105) X.1 X.2.1 (dk T_X8_createShape 54 rfl) rfl ?_
        exact w_X8_createShape_j105 X t0 hk0 x1 x2 x6 z.1 z.2.1 1 q8 KB KX0 Y (lv_sub hl [0, 1, 2, 3, 4, 5] rfl) h
def f_X8_createShape_0 (t0 : Nat) (x1 : Int32) (x2 : Int32) (x3 : Int32) (x4 : Int32) (x5 : Int32) (σ : St) : Option (Int32 × St) :=
  (f_X9_append (t0 + 3) σ).bind fun q1 => (f_X9_set (t0 + 3) q1.1 0 x1 q1.2).bind fun q2 => (f_X9_set (t0 + 3) q1.1 1 x2 q2).bind fun q3 => (f_X9_set (t0 + 3) q1.1 2 x3 q3).bind fun q4 => (f_X9_set (t0 + 3) q1.1 3 x4 q4).bind fun q5 => (f_X9_set (t0 + 3) q1.1 4 x5 q5).bind fun q6 => (lp (f_X8_createShape_l72 t0 x1 x2 q1.1) FU (x3, 0, q6)).bind fun q14 => some (q1.1, q14)
set_option maxHeartbeats 4000000 in
set_option maxRecDepth 100000 in
theorem w_X8_createShape_0 (X : Cx g RX8 cX8_createShape 10 (some .int) p s m args meth c) (t0 : Nat) (hk0 : kd t0 = 9) (x1 : Int32) (x2 : Int32) (x3 : Int32) (x4 : Int32) (x5 : Int32) (σ : St) {w : Int32 × St} (KR : ∀ (H : Heap) (locs : List Loc) (ls : Array Slot) (pc : Nat), Wd g s w.2 H locs → decode cX8_createShape pc = .ok (.ireturn, 1) → W p l e (rmm 2 48) s m args below meth c H locs 0 0 Q (F0 m pc ls [.int (w.1)])) {H : Heap} {locs : List Loc} {ls : Array Slot} (Y : Wd g s σ H locs) (hl : lv_has ls 10 [(0, .ref (g.2.2 (t0))), (1, .int (x1)), (2, .int (x2)), (3, .int (x3)), (4, .int (x4)), (5, .int (x5))]) (h : f_X8_createShape_0 t0 x1 x2 x3 x4 x5 σ = some w) : W p l e (rmm 2 48) s m args below meth c H locs 0 0 Q (F0 m 0 ls []) := by
  unfold f_X8_createShape_0 at h
  refine lv_aload_n X.1 X.2.1 (dk T_X8_createShape 0 rfl) rfl (lv_at hl 0 rfl) ?_
  refine gg X Y fl_X8_20 hk0 rfl (dk T_X8_createShape 1 rfl) ?_
  obtain ⟨q1, hq1, h⟩ := bs h
  refine gvI (rest := []) X Y (c_X9_append (t0 + 3) (ks3 hk0) σ hq1) cb_X8_54 (ks3 hk0) hl.1 rfl rfl (Nat.le_of_ble_eq_true rfl) ⟨Nat.le_of_ble_eq_true rfl, Nat.le_of_ble_eq_true rfl⟩ (dk T_X8_createShape 2 rfl) (fun H locs Y => ?_)
  refine lv_istore (lv' := [(6, .int (q1.1)), (0, .ref (g.2.2 (t0))), (1, .int (x1)), (2, .int (x2)), (3, .int (x3)), (4, .int (x4)), (5, .int (x5))]) X.1 X.2.1 (dk T_X8_createShape 3 rfl) hl (Nat.le_of_ble_eq_true rfl) rfl (fun ls hl => ?_)
  refine lv_aload_n X.1 X.2.1 (dk T_X8_createShape 4 rfl) rfl (lv_at hl 1 rfl) ?_
  refine gg X Y fl_X8_20 hk0 rfl (dk T_X8_createShape 5 rfl) ?_
  refine lv_iload X.1 X.2.1 (dk T_X8_createShape 6 rfl) (lv_at hl 0 rfl) ?_
  refine lv_iconst (v := 0) X.1 X.2.1 (dk T_X8_createShape 7 rfl) ic_0 ?_
  refine lv_iload_n X.1 X.2.1 (dk T_X8_createShape 8 rfl) rfl (lv_at hl 2 rfl) ?_
  obtain ⟨q2, hq2, h⟩ := bs h
  refine gvV (rest := []) X Y (c_X9_set (t0 + 3) (ks3 hk0) q1.1 0 x1 q1.2 hq2) cb_X8_41 (ks3 hk0) hl.1 rfl rfl (Nat.le_of_ble_eq_true rfl) ⟨Nat.le_of_ble_eq_true rfl, Nat.le_of_ble_eq_true rfl⟩ (dk T_X8_createShape 9 rfl) (fun H locs Y => ?_)
  refine lv_aload_n X.1 X.2.1 (dk T_X8_createShape 10 rfl) rfl (lv_at hl 1 rfl) ?_
  refine gg X Y fl_X8_20 hk0 rfl (dk T_X8_createShape 11 rfl) ?_
  refine lv_iload X.1 X.2.1 (dk T_X8_createShape 12 rfl) (lv_at hl 0 rfl) ?_
  refine lv_iconst (v := 1) X.1 X.2.1 (dk T_X8_createShape 13 rfl) ic_1 ?_
  refine lv_iload_n X.1 X.2.1 (dk T_X8_createShape 14 rfl) rfl (lv_at hl 3 rfl) ?_
  obtain ⟨q3, hq3, h⟩ := bs h
  refine gvV (rest := []) X Y (c_X9_set (t0 + 3) (ks3 hk0) q1.1 1 x2 q2 hq3) cb_X8_41 (ks3 hk0) hl.1 rfl rfl (Nat.le_of_ble_eq_true rfl) ⟨Nat.le_of_ble_eq_true rfl, Nat.le_of_ble_eq_true rfl⟩ (dk T_X8_createShape 15 rfl) (fun H locs Y => ?_)
  refine lv_aload_n X.1 X.2.1 (dk T_X8_createShape 16 rfl) rfl (lv_at hl 1 rfl) ?_
  refine gg X Y fl_X8_20 hk0 rfl (dk T_X8_createShape 17 rfl) ?_
  refine lv_iload X.1 X.2.1 (dk T_X8_createShape 18 rfl) (lv_at hl 0 rfl) ?_
  refine lv_iconst (v := 2) X.1 X.2.1 (dk T_X8_createShape 19 rfl) ic_2 ?_
  refine lv_iload_n X.1 X.2.1 (dk T_X8_createShape 20 rfl) rfl (lv_at hl 4 rfl) ?_
  obtain ⟨q4, hq4, h⟩ := bs h
  refine gvV (rest := []) X Y (c_X9_set (t0 + 3) (ks3 hk0) q1.1 2 x3 q3 hq4) cb_X8_41 (ks3 hk0) hl.1 rfl rfl (Nat.le_of_ble_eq_true rfl) ⟨Nat.le_of_ble_eq_true rfl, Nat.le_of_ble_eq_true rfl⟩ (dk T_X8_createShape 21 rfl) (fun H locs Y => ?_)
  refine lv_aload_n X.1 X.2.1 (dk T_X8_createShape 22 rfl) rfl (lv_at hl 1 rfl) ?_
  refine gg X Y fl_X8_20 hk0 rfl (dk T_X8_createShape 23 rfl) ?_
  refine lv_iload X.1 X.2.1 (dk T_X8_createShape 24 rfl) (lv_at hl 0 rfl) ?_
  refine lv_iconst (v := 3) X.1 X.2.1 (dk T_X8_createShape 25 rfl) ic_3 ?_
  refine lv_iload X.1 X.2.1 (dk T_X8_createShape 26 rfl) (lv_at hl 5 rfl) ?_
  obtain ⟨q5, hq5, h⟩ := bs h
  refine gvV (rest := []) X Y (c_X9_set (t0 + 3) (ks3 hk0) q1.1 3 x4 q4 hq5) cb_X8_41 (ks3 hk0) hl.1 rfl rfl (Nat.le_of_ble_eq_true rfl) ⟨Nat.le_of_ble_eq_true rfl, Nat.le_of_ble_eq_true rfl⟩ (dk T_X8_createShape 27 rfl) (fun H locs Y => ?_)
  refine lv_aload_n X.1 X.2.1 (dk T_X8_createShape 28 rfl) rfl (lv_at hl 1 rfl) ?_
  refine gg X Y fl_X8_20 hk0 rfl (dk T_X8_createShape 29 rfl) ?_
  refine lv_iload X.1 X.2.1 (dk T_X8_createShape 30 rfl) (lv_at hl 0 rfl) ?_
  refine lv_iconst (v := 4) X.1 X.2.1 (dk T_X8_createShape 31 rfl) ic_4 ?_
  refine lv_iload X.1 X.2.1 (dk T_X8_createShape 32 rfl) (lv_at hl 6 rfl) ?_
  obtain ⟨q6, hq6, h⟩ := bs h
  refine gvV (rest := []) X Y (c_X9_set (t0 + 3) (ks3 hk0) q1.1 4 x5 q5 hq6) cb_X8_41 (ks3 hk0) hl.1 rfl rfl (Nat.le_of_ble_eq_true rfl) ⟨Nat.le_of_ble_eq_true rfl, Nat.le_of_ble_eq_true rfl⟩ (dk T_X8_createShape 33 rfl) (fun H locs Y => ?_)
  refine lv_iload_n X.1 X.2.1 (dk T_X8_createShape 34 rfl) rfl (lv_at hl 4 rfl) ?_
  refine lv_istore (lv' := [(7, .int (x3)), (6, .int (q1.1)), (0, .ref (g.2.2 (t0))), (1, .int (x1)), (2, .int (x2)), (3, .int (x3)), (4, .int (x4)), (5, .int (x5))]) X.1 X.2.1 (dk T_X8_createShape 35 rfl) hl (Nat.le_of_ble_eq_true rfl) rfl (fun ls hl => ?_)
  refine lv_iconst (v := 0) X.1 X.2.1 (dk T_X8_createShape 36 rfl) ic_0 ?_
  refine lv_istore (lv' := [(8, .int (0)), (7, .int (x3)), (6, .int (q1.1)), (0, .ref (g.2.2 (t0))), (1, .int (x1)), (2, .int (x2)), (3, .int (x3)), (4, .int (x4)), (5, .int (x5))]) X.1 X.2.1 (dk T_X8_createShape 37 rfl) hl (Nat.le_of_ble_eq_true rfl) rfl (fun ls hl => ?_)
  obtain ⟨q14, hq14, h⟩ := bs h
  refine w_X8_createShape_l72 X t0 hk0 x1 x2 q1.1 σ (fun v e H locs ls Y hl => ?_) FU (x3, 0, q6) Y (lv_sub hl [3, 4, 5, 2, 1, 0] rfl) hq14
  · obtain rfl := e
    refine lv_iload X.1 X.2.1 (dk T_X8_createShape 72 rfl) (lv_at hl 0 rfl) ?_
    obtain rfl := Option.some.inj h
    exact KR _ _ _ _ Y (dk T_X8_createShape 73 rfl)
def f_X8_createShape (t0 : Nat) (x1 : Int32) (x2 : Int32) (x3 : Int32) (x4 : Int32) (x5 : Int32) (σ : St) : Option (Int32 × St) := f_X8_createShape_0 t0 x1 x2 x3 x4 x5 σ
set_option maxHeartbeats 4000000 in
set_option maxRecDepth 100000 in
theorem c_X8_createShape {l : Launch} {g : Geo} (t0 : Nat) (hk0 : kd t0 = 9) (x1 : Int32) (x2 : Int32) (x3 : Int32) (x4 : Int32) (x5 : Int32) (σ : St) {w : Int32 × St} (h : f_X8_createShape t0 x1 x2 x3 x4 x5 σ = some w) : CtI l yX8_createShape cX8_createShape 10 (some .int) (rmm 2 48) g [.ref (g.2.2 (t0)), .int (x1), .int (x2), .int (x3), .int (x4), .int (x5)] σ w.1 w.2 := enI .int (by decide) rfl rfl (Nat.le_of_ble_eq_true rfl) (fun p e s m args below meth c Q X Y ls hl KR => w_X8_createShape_0 X t0 hk0 x1 x2 x3 x4 x5 σ KR Y hl h)
def I_X8_columnsOf : List (Nat × Instr × Nat) := [(0, .aload_n 0, 1), (1, .getfield 14, 3), (4, .iload_n 1, 1), (5, .iconst 0, 1), (6, .invokevirtual 30, 3), (9, .ireturn, 1)]
set_option maxRecDepth 100000 in
theorem T_X8_columnsOf : ∀ q ∈ I_X8_columnsOf, decode cX8_columnsOf q.1 = .ok (q.2.1, q.2.2) := by decide +kernel
def f_X8_columnsOf_0 (t0 : Nat) (x1 : Int32) (σ : St) : Option (Int32) :=
  (f_X9_get (t0 + 1) x1 0 σ).bind fun q1 => some q1
set_option maxHeartbeats 4000000 in
set_option maxRecDepth 100000 in
theorem w_X8_columnsOf_0 (X : Cx g RX8 cX8_columnsOf 2 (some .int) p s m args meth c) (t0 : Nat) (hk0 : kd t0 = 9) (x1 : Int32) (σ : St) {w : Int32} (KR : ∀ (H : Heap) (locs : List Loc) (ls : Array Slot) (pc : Nat), Wd g s σ H locs → decode cX8_columnsOf pc = .ok (.ireturn, 1) → W p l e (rmm 1 23) s m args below meth c H locs 0 0 Q (F0 m pc ls [.int (w)])) {H : Heap} {locs : List Loc} {ls : Array Slot} (Y : Wd g s σ H locs) (hl : lv_has ls 2 [(0, .ref (g.2.2 (t0))), (1, .int (x1))]) (h : f_X8_columnsOf_0 t0 x1 σ = some w) : W p l e (rmm 1 23) s m args below meth c H locs 0 0 Q (F0 m 0 ls []) := by
  unfold f_X8_columnsOf_0 at h
  refine lv_aload_n X.1 X.2.1 (dk T_X8_columnsOf 0 rfl) rfl (lv_at hl 0 rfl) ?_
  refine gg X Y fl_X8_14 hk0 rfl (dk T_X8_columnsOf 1 rfl) ?_
  refine lv_iload_n X.1 X.2.1 (dk T_X8_columnsOf 2 rfl) rfl (lv_at hl 1 rfl) ?_
  refine lv_iconst (v := 0) X.1 X.2.1 (dk T_X8_columnsOf 3 rfl) ic_0 ?_
  obtain ⟨q1, hq1, h⟩ := bs h
  refine gvI (rest := []) X Y (c_X9_get (t0 + 1) (ks1 hk0) x1 0 σ hq1) cb_X8_30 (ks1 hk0) hl.1 rfl rfl (Nat.le_of_ble_eq_true rfl) ⟨Nat.le_of_ble_eq_true rfl, Nat.le_of_ble_eq_true rfl⟩ (dk T_X8_columnsOf 4 rfl) (fun H locs Y => ?_)
  obtain rfl := Option.some.inj h
  exact KR _ _ _ _ Y (dk T_X8_columnsOf 5 rfl)
def f_X8_columnsOf (t0 : Nat) (x1 : Int32) (σ : St) : Option (Int32) := f_X8_columnsOf_0 t0 x1 σ
set_option maxHeartbeats 4000000 in
set_option maxRecDepth 100000 in
theorem c_X8_columnsOf {l : Launch} {g : Geo} (t0 : Nat) (hk0 : kd t0 = 9) (x1 : Int32) (σ : St) {w : Int32} (h : f_X8_columnsOf t0 x1 σ = some w) : CtI l yX8_columnsOf cX8_columnsOf 2 (some .int) (rmm 1 23) g [.ref (g.2.2 (t0)), .int (x1)] σ w σ := enI .int (by decide) rfl rfl (Nat.le_of_ble_eq_true rfl) (fun p e s m args below meth c Q X Y ls hl KR => w_X8_columnsOf_0 X t0 hk0 x1 σ KR Y hl h)
def I_X8_rowsOf : List (Nat × Instr × Nat) := [(0, .aload_n 0, 1), (1, .getfield 14, 3), (4, .iload_n 1, 1), (5, .iconst 1, 1), (6, .invokevirtual 30, 3), (9, .ireturn, 1)]
set_option maxRecDepth 100000 in
theorem T_X8_rowsOf : ∀ q ∈ I_X8_rowsOf, decode cX8_rowsOf q.1 = .ok (q.2.1, q.2.2) := by decide +kernel
def f_X8_rowsOf_0 (t0 : Nat) (x1 : Int32) (σ : St) : Option (Int32) :=
  (f_X9_get (t0 + 1) x1 1 σ).bind fun q1 => some q1
set_option maxHeartbeats 4000000 in
set_option maxRecDepth 100000 in
theorem w_X8_rowsOf_0 (X : Cx g RX8 cX8_rowsOf 2 (some .int) p s m args meth c) (t0 : Nat) (hk0 : kd t0 = 9) (x1 : Int32) (σ : St) {w : Int32} (KR : ∀ (H : Heap) (locs : List Loc) (ls : Array Slot) (pc : Nat), Wd g s σ H locs → decode cX8_rowsOf pc = .ok (.ireturn, 1) → W p l e (rmm 1 23) s m args below meth c H locs 0 0 Q (F0 m pc ls [.int (w)])) {H : Heap} {locs : List Loc} {ls : Array Slot} (Y : Wd g s σ H locs) (hl : lv_has ls 2 [(0, .ref (g.2.2 (t0))), (1, .int (x1))]) (h : f_X8_rowsOf_0 t0 x1 σ = some w) : W p l e (rmm 1 23) s m args below meth c H locs 0 0 Q (F0 m 0 ls []) := by
  unfold f_X8_rowsOf_0 at h
  refine lv_aload_n X.1 X.2.1 (dk T_X8_rowsOf 0 rfl) rfl (lv_at hl 0 rfl) ?_
  refine gg X Y fl_X8_14 hk0 rfl (dk T_X8_rowsOf 1 rfl) ?_
  refine lv_iload_n X.1 X.2.1 (dk T_X8_rowsOf 2 rfl) rfl (lv_at hl 1 rfl) ?_
  refine lv_iconst (v := 1) X.1 X.2.1 (dk T_X8_rowsOf 3 rfl) ic_1 ?_
  obtain ⟨q1, hq1, h⟩ := bs h
  refine gvI (rest := []) X Y (c_X9_get (t0 + 1) (ks1 hk0) x1 1 σ hq1) cb_X8_30 (ks1 hk0) hl.1 rfl rfl (Nat.le_of_ble_eq_true rfl) ⟨Nat.le_of_ble_eq_true rfl, Nat.le_of_ble_eq_true rfl⟩ (dk T_X8_rowsOf 4 rfl) (fun H locs Y => ?_)
  obtain rfl := Option.some.inj h
  exact KR _ _ _ _ Y (dk T_X8_rowsOf 5 rfl)
def f_X8_rowsOf (t0 : Nat) (x1 : Int32) (σ : St) : Option (Int32) := f_X8_rowsOf_0 t0 x1 σ
set_option maxHeartbeats 4000000 in
set_option maxRecDepth 100000 in
theorem c_X8_rowsOf {l : Launch} {g : Geo} (t0 : Nat) (hk0 : kd t0 = 9) (x1 : Int32) (σ : St) {w : Int32} (h : f_X8_rowsOf t0 x1 σ = some w) : CtI l yX8_rowsOf cX8_rowsOf 2 (some .int) (rmm 1 23) g [.ref (g.2.2 (t0)), .int (x1)] σ w σ := enI .int (by decide) rfl rfl (Nat.le_of_ble_eq_true rfl) (fun p e s m args below meth c Q X Y ls hl KR => w_X8_rowsOf_0 X t0 hk0 x1 σ KR Y hl h)
def I_X8_cellsOf : List (Nat × Instr × Nat) := [(0, .aload_n 0, 1), (1, .iload_n 1, 1), (2, .invokevirtual 34, 3), (5, .aload_n 0, 1), (6, .iload_n 1, 1), (7, .invokevirtual 38, 3), (10, .imul, 1), (11, .ireturn, 1)]
set_option maxRecDepth 100000 in
theorem T_X8_cellsOf : ∀ q ∈ I_X8_cellsOf, decode cX8_cellsOf q.1 = .ok (q.2.1, q.2.2) := by decide +kernel
def f_X8_cellsOf_0 (t0 : Nat) (x1 : Int32) (σ : St) : Option (Int32) :=
  (f_X8_columnsOf t0 x1 σ).bind fun q1 => (f_X8_rowsOf t0 x1 σ).bind fun q2 => some (q1 * q2)
set_option maxHeartbeats 4000000 in
set_option maxRecDepth 100000 in
theorem w_X8_cellsOf_0 (X : Cx g RX8 cX8_cellsOf 2 (some .int) p s m args meth c) (t0 : Nat) (hk0 : kd t0 = 9) (x1 : Int32) (σ : St) {w : Int32} (KR : ∀ (H : Heap) (locs : List Loc) (ls : Array Slot) (pc : Nat), Wd g s σ H locs → decode cX8_cellsOf pc = .ok (.ireturn, 1) → W p l e (rmm 2 44) s m args below meth c H locs 0 0 Q (F0 m pc ls [.int (w)])) {H : Heap} {locs : List Loc} {ls : Array Slot} (Y : Wd g s σ H locs) (hl : lv_has ls 2 [(0, .ref (g.2.2 (t0))), (1, .int (x1))]) (h : f_X8_cellsOf_0 t0 x1 σ = some w) : W p l e (rmm 2 44) s m args below meth c H locs 0 0 Q (F0 m 0 ls []) := by
  unfold f_X8_cellsOf_0 at h
  refine lv_aload_n X.1 X.2.1 (dk T_X8_cellsOf 0 rfl) rfl (lv_at hl 0 rfl) ?_
  refine lv_iload_n X.1 X.2.1 (dk T_X8_cellsOf 1 rfl) rfl (lv_at hl 1 rfl) ?_
  obtain ⟨q1, hq1, h⟩ := bs h
  refine gvI (rest := []) X Y (c_X8_columnsOf t0 hk0 x1 σ hq1) cb_X8_34 hk0 hl.1 rfl rfl (Nat.le_of_ble_eq_true rfl) ⟨Nat.le_of_ble_eq_true rfl, Nat.le_of_ble_eq_true rfl⟩ (dk T_X8_cellsOf 2 rfl) (fun H locs Y => ?_)
  refine lv_aload_n X.1 X.2.1 (dk T_X8_cellsOf 3 rfl) rfl (lv_at hl 0 rfl) ?_
  refine lv_iload_n X.1 X.2.1 (dk T_X8_cellsOf 4 rfl) rfl (lv_at hl 1 rfl) ?_
  obtain ⟨q2, hq2, h⟩ := bs h
  refine gvI (rest := [.int (q1)]) X Y (c_X8_rowsOf t0 hk0 x1 σ hq2) cb_X8_38 hk0 hl.1 rfl rfl (Nat.le_of_ble_eq_true rfl) ⟨Nat.le_of_ble_eq_true rfl, Nat.le_of_ble_eq_true rfl⟩ (dk T_X8_cellsOf 5 rfl) (fun H locs Y => ?_)
  refine lv_imul X.1 X.2.1 (dk T_X8_cellsOf 6 rfl) ?_
  obtain rfl := Option.some.inj h
  exact KR _ _ _ _ Y (dk T_X8_cellsOf 7 rfl)
def f_X8_cellsOf (t0 : Nat) (x1 : Int32) (σ : St) : Option (Int32) := f_X8_cellsOf_0 t0 x1 σ
set_option maxHeartbeats 4000000 in
set_option maxRecDepth 100000 in
theorem c_X8_cellsOf {l : Launch} {g : Geo} (t0 : Nat) (hk0 : kd t0 = 9) (x1 : Int32) (σ : St) {w : Int32} (h : f_X8_cellsOf t0 x1 σ = some w) : CtI l yX8_cellsOf cX8_cellsOf 2 (some .int) (rmm 2 44) g [.ref (g.2.2 (t0)), .int (x1)] σ w σ := enI .int (by decide) rfl rfl (Nat.le_of_ble_eq_true rfl) (fun p e s m args below meth c Q X Y ls hl KR => w_X8_cellsOf_0 X t0 hk0 x1 σ KR Y hl h)
def I_X8_onCell : List (Nat × Instr × Nat) := [(0, .aload_n 0, 1), (1, .getfield 14, 3), (4, .iload_n 1, 1), (5, .iconst 3, 1), (6, .iload_n 2, 1), (7, .iadd, 1), (8, .invokevirtual 30, 3), (11, .ireturn, 1)]
set_option maxRecDepth 100000 in
theorem T_X8_onCell : ∀ q ∈ I_X8_onCell, decode cX8_onCell q.1 = .ok (q.2.1, q.2.2) := by decide +kernel
def f_X8_onCell_0 (t0 : Nat) (x1 : Int32) (x2 : Int32) (σ : St) : Option (Int32) :=
  (f_X9_get (t0 + 1) x1 (3 + x2) σ).bind fun q1 => some q1
set_option maxHeartbeats 4000000 in
set_option maxRecDepth 100000 in
theorem w_X8_onCell_0 (X : Cx g RX8 cX8_onCell 3 (some .int) p s m args meth c) (t0 : Nat) (hk0 : kd t0 = 9) (x1 : Int32) (x2 : Int32) (σ : St) {w : Int32} (KR : ∀ (H : Heap) (locs : List Loc) (ls : Array Slot) (pc : Nat), Wd g s σ H locs → decode cX8_onCell pc = .ok (.ireturn, 1) → W p l e (rmm 1 23) s m args below meth c H locs 0 0 Q (F0 m pc ls [.int (w)])) {H : Heap} {locs : List Loc} {ls : Array Slot} (Y : Wd g s σ H locs) (hl : lv_has ls 3 [(0, .ref (g.2.2 (t0))), (1, .int (x1)), (2, .int (x2))]) (h : f_X8_onCell_0 t0 x1 x2 σ = some w) : W p l e (rmm 1 23) s m args below meth c H locs 0 0 Q (F0 m 0 ls []) := by
  unfold f_X8_onCell_0 at h
  refine lv_aload_n X.1 X.2.1 (dk T_X8_onCell 0 rfl) rfl (lv_at hl 0 rfl) ?_
  refine gg X Y fl_X8_14 hk0 rfl (dk T_X8_onCell 1 rfl) ?_
  refine lv_iload_n X.1 X.2.1 (dk T_X8_onCell 2 rfl) rfl (lv_at hl 1 rfl) ?_
  refine lv_iconst (v := 3) X.1 X.2.1 (dk T_X8_onCell 3 rfl) ic_3 ?_
  refine lv_iload_n X.1 X.2.1 (dk T_X8_onCell 4 rfl) rfl (lv_at hl 2 rfl) ?_
  refine lv_iadd X.1 X.2.1 (dk T_X8_onCell 5 rfl) ?_
  obtain ⟨q1, hq1, h⟩ := bs h
  refine gvI (rest := []) X Y (c_X9_get (t0 + 1) (ks1 hk0) x1 (3 + x2) σ hq1) cb_X8_30 (ks1 hk0) hl.1 rfl rfl (Nat.le_of_ble_eq_true rfl) ⟨Nat.le_of_ble_eq_true rfl, Nat.le_of_ble_eq_true rfl⟩ (dk T_X8_onCell 6 rfl) (fun H locs Y => ?_)
  obtain rfl := Option.some.inj h
  exact KR _ _ _ _ Y (dk T_X8_onCell 7 rfl)
def f_X8_onCell (t0 : Nat) (x1 : Int32) (x2 : Int32) (σ : St) : Option (Int32) := f_X8_onCell_0 t0 x1 x2 σ
set_option maxHeartbeats 4000000 in
set_option maxRecDepth 100000 in
theorem c_X8_onCell {l : Launch} {g : Geo} (t0 : Nat) (hk0 : kd t0 = 9) (x1 : Int32) (x2 : Int32) (σ : St) {w : Int32} (h : f_X8_onCell t0 x1 x2 σ = some w) : CtI l yX8_onCell cX8_onCell 3 (some .int) (rmm 1 23) g [.ref (g.2.2 (t0)), .int (x1), .int (x2)] σ w σ := enI .int (by decide) rfl rfl (Nat.le_of_ble_eq_true rfl) (fun p e s m args below meth c Q X Y ls hl KR => w_X8_onCell_0 X t0 hk0 x1 x2 σ KR Y hl h)
def I_X8_cellsWith : List (Nat × Instr × Nat) := [(0, .iconst 0, 1), (1, .istore_n 3, 1), (2, .iconst 0, 1), (3, .istore 4, 2), (5, .iload 4, 2), (7, .aload_n 0, 1), (8, .iload_n 1, 1), (9, .invokevirtual 45, 3), (12, .if_icmp .ge 23, 3), (15, .aload_n 0, 1), (16, .iload_n 1, 1), (17, .iload 4, 2), (19, .invokevirtual 48, 3), (22, .iload_n 2, 1), (23, .if_icmp .ne 6, 3), (26, .iinc 3 1, 3), (29, .iinc 4 1, 3), (32, .goto (-27), 3), (35, .iload_n 3, 1), (36, .ireturn, 1)]
set_option maxRecDepth 100000 in
theorem T_X8_cellsWith : ∀ q ∈ I_X8_cellsWith, decode cX8_cellsWith q.1 = .ok (q.2.1, q.2.2) := by decide +kernel
def f_X8_cellsWith_j29 (t0 : Nat) (x1 : Int32) (x2 : Int32) (x3 : Int32) (x4 : Int32) (σ : St) : Option ((Int32 × Int32) ⊕ (Int32)) :=
  some (.inl (x3, x4 + 1))
set_option maxHeartbeats 4000000 in
set_option maxRecDepth 100000 in
theorem w_X8_cellsWith_j29 (X : Cx g RX8 cX8_cellsWith 5 (some .int) p s m args meth c) (t0 : Nat) (hk0 : kd t0 = 9) (x1 : Int32) (x2 : Int32) (x3 : Int32) (x4 : Int32) (σ : St) {w : (Int32 × Int32) ⊕ (Int32)} (KB : ∀ (v0_ : Int32) (v1_ : Int32), w = .inl (v0_, v1_) → ∀ (H : Heap) (locs : List Loc) (ls : Array Slot), Wd g s σ H locs → lv_has ls 5 [(0, .ref (g.2.2 (t0))), (1, .int (x1)), (2, .int (x2)), (3, .int (v0_)), (4, .int (v1_))] → W p l e (rmm 3 65) s m args below meth c H locs 0 0 Q (F0 m 5 ls [])) (KX0 : ∀ (v : Int32), w = .inr v → ∀ (H : Heap) (locs : List Loc) (ls : Array Slot), Wd g s σ H locs → lv_has ls 5 [(3, .int (v))] → W p l e (rmm 3 65) s m args below meth c H locs 0 0 Q (F0 m 35 ls [])) {H : Heap} {locs : List Loc} {ls : Array Slot} (Y : Wd g s σ H locs) (hl : lv_has ls 5 [(0, .ref (g.2.2 (t0))), (1, .int (x1)), (2, .int (x2)), (3, .int (x3)), (4, .int (x4))]) (h : f_X8_cellsWith_j29 t0 x1 x2 x3 x4 σ = some w) : W p l e (rmm 3 65) s m args below meth c H locs 0 0 Q (F0 m 29 ls []) := by
  unfold f_X8_cellsWith_j29 at h
  refine lv_iinc (v := x4 + 1) (lv' := [(4, .int (x4 + 1)), (0, .ref (g.2.2 (t0))), (1, .int (x1)), (2, .int (x2)), (3, .int (x3))]) X.1 X.2.1 (dk T_X8_cellsWith 16 rfl) hl (k := 4) rfl (icx ic_1) (Nat.le_of_ble_eq_true rfl) rfl (fun ls hl => ?_)
  refine lv_goto (tgt := 5) X.1 X.2.1 (dk T_X8_cellsWith 17 rfl) rfl ?_
  exact KB x3 (x4 + 1) (Option.some.inj h).symm _ _ _ Y (lv_sub hl [1, 2, 3, 4, 0] rfl)
def f_X8_cellsWith_l5 (t0 : Nat) (x1 : Int32) (x2 : Int32) (σ : St) (z : Int32 × Int32) : Option ((Int32 × Int32) ⊕ (Int32)) :=
  (f_X8_cellsOf t0 x1 σ).bind fun q1 => if q1 ≤ z.2 then some (.inr z.1) else (f_X8_onCell t0 x1 z.2 σ).bind fun q3 => if q3 = x2 then f_X8_cellsWith_j29 t0 x1 x2 (z.1 + 1) z.2 σ else f_X8_cellsWith_j29 t0 x1 x2 z.1 z.2 σ
set_option maxHeartbeats 4000000 in
set_option maxRecDepth 100000 in
theorem w_X8_cellsWith_l5 (X : Cx g RX8 cX8_cellsWith 5 (some .int) p s m args meth c) (t0 : Nat) (hk0 : kd t0 = 9) (x1 : Int32) (x2 : Int32) (σ : St) {r : Int32} (KX0 : ∀ (v : Int32), r = v → ∀ (H : Heap) (locs : List Loc) (ls : Array Slot), Wd g s σ H locs → lv_has ls 5 [(3, .int (v))] → W p l e (rmm 3 65) s m args below meth c H locs 0 0 Q (F0 m 35 ls [])) : ∀ (n : Nat) (z : Int32 × Int32) {H : Heap} {locs : List Loc} {ls : Array Slot}, Wd g s σ H locs → lv_has ls 5 [(0, .ref (g.2.2 (t0))), (1, .int (x1)), (2, .int (x2)), (3, .int (z.1)), (4, .int (z.2))] → lp (f_X8_cellsWith_l5 t0 x1 x2 σ) n z = some r → W p l e (rmm 3 65) s m args below meth c H locs 0 0 Q (F0 m 5 ls []) := by
  intro n
  induction n with
  | zero => intro z H locs ls Y hl h; cases h
  | succ n ih =>
    intro z H locs ls Y hl h
    obtain ⟨w, h, hw⟩ := lps h
    have KB : ∀ (v0_ : Int32) (v1_ : Int32), w = .inl (v0_, v1_) → ∀ (H : Heap) (locs : List Loc) (ls : Array Slot), Wd g s σ H locs → lv_has ls 5 [(0, .ref (g.2.2 (t0))), (1, .int (x1)), (2, .int (x2)), (3, .int (v0_)), (4, .int (v1_))] → W p l e (rmm 3 65) s m args below meth c H locs 0 0 Q (F0 m 5 ls []) := fun v0_ v1_ e H locs ls Y hl => ih (v0_, v1_) Y hl (lpl hw e)
    have KX0 := fun (v : Int32) (e : w = .inr v) => KX0 v (lpr hw e)
    unfold f_X8_cellsWith_l5 at h
    refine lv_iload X.1 X.2.1 (dk T_X8_cellsWith 4 rfl) (lv_at hl 4 rfl) ?_
    refine lv_aload_n X.1 X.2.1 (dk T_X8_cellsWith 5 rfl) rfl (lv_at hl 0 rfl) ?_
    refine lv_iload_n X.1 X.2.1 (dk T_X8_cellsWith 6 rfl) rfl (lv_at hl 1 rfl) ?_
    obtain ⟨q1, hq1, h⟩ := bs h
    refine gvI (rest := [.int (z.2)]) X Y (c_X8_cellsOf t0 hk0 x1 σ hq1) cb_X8_45 hk0 hl.1 rfl rfl (Nat.le_of_ble_eq_true rfl) ⟨Nat.le_of_ble_eq_true rfl, Nat.le_of_ble_eq_true rfl⟩ (dk T_X8_cellsWith 7 rfl) (fun H locs Y => ?_)
    refine lv_icmp_ge (tgt := 35) X.1 X.2.1 (dk T_X8_cellsWith 8 rfl) rfl (fun c2 => ?_) (fun c2 => ?_)
    · replace h := ipos c2 h
      exact KX0 z.1 (Option.some.inj h).symm _ _ _ Y (lv_sub hl [3] rfl)
    · replace h := ineg c2 h
      refine lv_aload_n X.1 X.2.1 (dk T_X8_cellsWith 9 rfl) rfl (lv_at hl 0 rfl) ?_
      refine lv_iload_n X.1 X.2.1 (dk T_X8_cellsWith 10 rfl) rfl (lv_at hl 1 rfl) ?_
      refine lv_iload X.1 X.2.1 (dk T_X8_cellsWith 11 rfl) (lv_at hl 4 rfl) ?_
      obtain ⟨q3, hq3, h⟩ := bs h
      refine gvI (rest := []) X Y (c_X8_onCell t0 hk0 x1 z.2 σ hq3) cb_X8_48 hk0 hl.1 rfl rfl (Nat.le_of_ble_eq_true rfl) ⟨Nat.le_of_ble_eq_true rfl, Nat.le_of_ble_eq_true rfl⟩ (dk T_X8_cellsWith 12 rfl) (fun H locs Y => ?_)
      refine lv_iload_n X.1 X.2.1 (dk T_X8_cellsWith 13 rfl) rfl (lv_at hl 2 rfl) ?_
      refine lv_icmp_ne (tgt := 29) X.1 X.2.1 (dk T_X8_cellsWith 14 rfl) rfl (fun c4 => ?_) (fun c4 => ?_)
      · replace h := ineg c4 h
        exact w_X8_cellsWith_j29 X t0 hk0 x1 x2 z.1 z.2 σ KB KX0 Y (lv_sub hl [0, 1, 2, 3, 4] rfl) h
      · replace h := ipos c4 h
        refine lv_iinc (v := z.1 + 1) (lv' := [(3, .int (z.1 + 1)), (0, .ref (g.2.2 (t0))), (1, .int (x1)), (2, .int (x2)), (4, .int (z.2))]) X.1 X.2.1 (dk T_X8_cellsWith 15 rfl) hl (k := 3) rfl (icx ic_1) (Nat.le_of_ble_eq_true rfl) rfl (fun ls hl => ?_)
        exact w_X8_cellsWith_j29 X t0 hk0 x1 x2 (z.1 + 1) z.2 σ KB KX0 Y (lv_sub hl [1, 2, 3, 0, 4] rfl) h
def f_X8_cellsWith_0 (t0 : Nat) (x1 : Int32) (x2 : Int32) (σ : St) : Option (Int32) :=
  (lp (f_X8_cellsWith_l5 t0 x1 x2 σ) FU (0, 0)).bind fun q5 => some q5
set_option maxHeartbeats 4000000 in
set_option maxRecDepth 100000 in
theorem w_X8_cellsWith_0 (X : Cx g RX8 cX8_cellsWith 5 (some .int) p s m args meth c) (t0 : Nat) (hk0 : kd t0 = 9) (x1 : Int32) (x2 : Int32) (σ : St) {w : Int32} (KR : ∀ (H : Heap) (locs : List Loc) (ls : Array Slot) (pc : Nat), Wd g s σ H locs → decode cX8_cellsWith pc = .ok (.ireturn, 1) → W p l e (rmm 3 65) s m args below meth c H locs 0 0 Q (F0 m pc ls [.int (w)])) {H : Heap} {locs : List Loc} {ls : Array Slot} (Y : Wd g s σ H locs) (hl : lv_has ls 5 [(0, .ref (g.2.2 (t0))), (1, .int (x1)), (2, .int (x2))]) (h : f_X8_cellsWith_0 t0 x1 x2 σ = some w) : W p l e (rmm 3 65) s m args below meth c H locs 0 0 Q (F0 m 0 ls []) := by
  unfold f_X8_cellsWith_0 at h
  refine lv_iconst (v := 0) X.1 X.2.1 (dk T_X8_cellsWith 0 rfl) ic_0 ?_
  refine lv_istore_n (lv' := [(3, .int (0)), (0, .ref (g.2.2 (t0))), (1, .int (x1)), (2, .int (x2))]) X.1 X.2.1 (dk T_X8_cellsWith 1 rfl) rfl hl (Nat.le_of_ble_eq_true rfl) rfl (fun ls hl => ?_)
  refine lv_iconst (v := 0) X.1 X.2.1 (dk T_X8_cellsWith 2 rfl) ic_0 ?_
  refine lv_istore (lv' := [(4, .int (0)), (3, .int (0)), (0, .ref (g.2.2 (t0))), (1, .int (x1)), (2, .int (x2))]) X.1 X.2.1 (dk T_X8_cellsWith 3 rfl) hl (Nat.le_of_ble_eq_true rfl) rfl (fun ls hl => ?_)
  obtain ⟨q5, hq5, h⟩ := bs h
  refine w_X8_cellsWith_l5 X t0 hk0 x1 x2 σ (fun v e H locs ls Y hl => ?_) FU (0, 0) Y (lv_sub hl [2, 3, 4, 1, 0] rfl) hq5
  · obtain rfl := e
    refine lv_iload_n X.1 X.2.1 (dk T_X8_cellsWith 18 rfl) rfl (lv_at hl 0 rfl) ?_
    obtain rfl := Option.some.inj h
    exact KR _ _ _ _ Y (dk T_X8_cellsWith 19 rfl)
def f_X8_cellsWith (t0 : Nat) (x1 : Int32) (x2 : Int32) (σ : St) : Option (Int32) := f_X8_cellsWith_0 t0 x1 x2 σ
set_option maxHeartbeats 4000000 in
set_option maxRecDepth 100000 in
theorem c_X8_cellsWith {l : Launch} {g : Geo} (t0 : Nat) (hk0 : kd t0 = 9) (x1 : Int32) (x2 : Int32) (σ : St) {w : Int32} (h : f_X8_cellsWith t0 x1 x2 σ = some w) : CtI l yX8_cellsWith cX8_cellsWith 5 (some .int) (rmm 3 65) g [.ref (g.2.2 (t0)), .int (x1), .int (x2)] σ w σ := enI .int (by decide) rfl rfl (Nat.le_of_ble_eq_true rfl) (fun p e s m args below meth c Q X Y ls hl KR => w_X8_cellsWith_0 X t0 hk0 x1 x2 σ KR Y hl h)
def I_X8_coveredCells : List (Nat × Instr × Nat) := [(0, .aload_n 0, 1), (1, .iload_n 1, 1), (2, .invokevirtual 45, 3), (5, .aload_n 0, 1), (6, .iload_n 1, 1), (7, .iconst (-1), 1), (8, .invokevirtual 51, 3), (11, .isub, 1), (12, .aload_n 0, 1), (13, .iload_n 1, 1), (14, .bipush (-2), 2), (16, .invokevirtual 51, 3), (19, .isub, 1), (20, .ireturn, 1)]
set_option maxRecDepth 100000 in
theorem T_X8_coveredCells : ∀ q ∈ I_X8_coveredCells, decode cX8_coveredCells q.1 = .ok (q.2.1, q.2.2) := by decide +kernel
def f_X8_coveredCells_0 (t0 : Nat) (x1 : Int32) (σ : St) : Option (Int32) :=
  (f_X8_cellsOf t0 x1 σ).bind fun q1 => (f_X8_cellsWith t0 x1 (-1) σ).bind fun q2 => (f_X8_cellsWith t0 x1 (-2) σ).bind fun q3 => some ((q1 - q2) - q3)
set_option maxHeartbeats 4000000 in
set_option maxRecDepth 100000 in
theorem w_X8_coveredCells_0 (X : Cx g RX8 cX8_coveredCells 2 (some .int) p s m args meth c) (t0 : Nat) (hk0 : kd t0 = 9) (x1 : Int32) (σ : St) {w : Int32} (KR : ∀ (H : Heap) (locs : List Loc) (ls : Array Slot) (pc : Nat), Wd g s σ H locs → decode cX8_coveredCells pc = .ok (.ireturn, 1) → W p l e (rmm 4 89) s m args below meth c H locs 0 0 Q (F0 m pc ls [.int (w)])) {H : Heap} {locs : List Loc} {ls : Array Slot} (Y : Wd g s σ H locs) (hl : lv_has ls 2 [(0, .ref (g.2.2 (t0))), (1, .int (x1))]) (h : f_X8_coveredCells_0 t0 x1 σ = some w) : W p l e (rmm 4 89) s m args below meth c H locs 0 0 Q (F0 m 0 ls []) := by
  unfold f_X8_coveredCells_0 at h
  refine lv_aload_n X.1 X.2.1 (dk T_X8_coveredCells 0 rfl) rfl (lv_at hl 0 rfl) ?_
  refine lv_iload_n X.1 X.2.1 (dk T_X8_coveredCells 1 rfl) rfl (lv_at hl 1 rfl) ?_
  obtain ⟨q1, hq1, h⟩ := bs h
  refine gvI (rest := []) X Y (c_X8_cellsOf t0 hk0 x1 σ hq1) cb_X8_45 hk0 hl.1 rfl rfl (Nat.le_of_ble_eq_true rfl) ⟨Nat.le_of_ble_eq_true rfl, Nat.le_of_ble_eq_true rfl⟩ (dk T_X8_coveredCells 2 rfl) (fun H locs Y => ?_)
  refine lv_aload_n X.1 X.2.1 (dk T_X8_coveredCells 3 rfl) rfl (lv_at hl 0 rfl) ?_
  refine lv_iload_n X.1 X.2.1 (dk T_X8_coveredCells 4 rfl) rfl (lv_at hl 1 rfl) ?_
  refine lv_iconst (v := (-1)) X.1 X.2.1 (dk T_X8_coveredCells 5 rfl) ic_m1 ?_
  obtain ⟨q2, hq2, h⟩ := bs h
  refine gvI (rest := [.int (q1)]) X Y (c_X8_cellsWith t0 hk0 x1 (-1) σ hq2) cb_X8_51 hk0 hl.1 rfl rfl (Nat.le_of_ble_eq_true rfl) ⟨Nat.le_of_ble_eq_true rfl, Nat.le_of_ble_eq_true rfl⟩ (dk T_X8_coveredCells 6 rfl) (fun H locs Y => ?_)
  refine lv_isub X.1 X.2.1 (dk T_X8_coveredCells 7 rfl) ?_
  refine lv_aload_n X.1 X.2.1 (dk T_X8_coveredCells 8 rfl) rfl (lv_at hl 0 rfl) ?_
  refine lv_iload_n X.1 X.2.1 (dk T_X8_coveredCells 9 rfl) rfl (lv_at hl 1 rfl) ?_
  refine lv_bipush (v := (-2)) X.1 X.2.1 (dk T_X8_coveredCells 10 rfl) bp_m2 ?_
  obtain ⟨q3, hq3, h⟩ := bs h
  refine gvI (rest := [.int (q1 - q2)]) X Y (c_X8_cellsWith t0 hk0 x1 (-2) σ hq3) cb_X8_51 hk0 hl.1 rfl rfl (Nat.le_of_ble_eq_true rfl) ⟨Nat.le_of_ble_eq_true rfl, Nat.le_of_ble_eq_true rfl⟩ (dk T_X8_coveredCells 11 rfl) (fun H locs Y => ?_)
  refine lv_isub X.1 X.2.1 (dk T_X8_coveredCells 12 rfl) ?_
  obtain rfl := Option.some.inj h
  exact KR _ _ _ _ Y (dk T_X8_coveredCells 13 rfl)
def f_X8_coveredCells (t0 : Nat) (x1 : Int32) (σ : St) : Option (Int32) := f_X8_coveredCells_0 t0 x1 σ
set_option maxHeartbeats 4000000 in
set_option maxRecDepth 100000 in
theorem c_X8_coveredCells {l : Launch} {g : Geo} (t0 : Nat) (hk0 : kd t0 = 9) (x1 : Int32) (σ : St) {w : Int32} (h : f_X8_coveredCells t0 x1 σ = some w) : CtI l yX8_coveredCells cX8_coveredCells 2 (some .int) (rmm 4 89) g [.ref (g.2.2 (t0)), .int (x1)] σ w σ := enI .int (by decide) rfl rfl (Nat.le_of_ble_eq_true rfl) (fun p e s m args below meth c Q X Y ls hl KR => w_X8_coveredCells_0 X t0 hk0 x1 σ KR Y hl h)
def I_X8_onPlace : List (Nat × Instr × Nat) := [(0, .aload_n 0, 1), (1, .getfield 14, 3), (4, .iload_n 1, 1), (5, .iconst 0, 1), (6, .invokevirtual 30, 3), (9, .istore 4, 2), (11, .aload_n 0, 1), (12, .getfield 14, 3), (15, .iload_n 1, 1), (16, .iconst 1, 1), (17, .invokevirtual 30, 3), (20, .istore 5, 2), (22, .iload_n 2, 1), (23, .ifCond .lt 19, 3), (26, .iload_n 2, 1), (27, .iload 4, 2), (29, .if_icmp .ge 13, 3), (32, .iload_n 3, 1), (33, .ifCond .lt 9, 3), (36, .iload_n 3, 1), (37, .iload 5, 2), (39, .if_icmp .lt 6, 3), (42, .bipush (-2), 2), (44, .ireturn, 1), (45, .aload_n 0, 1), (46, .getfield 14, 3), (49, .iload_n 1, 1), (50, .iconst 3, 1), (51, .iload_n 2, 1), (52, .iadd, 1), (53, .iload 4, 2), (55, .iload_n 3, 1), (56, .imul, 1), (57, .iadd, 1), (58, .invokevirtual 30, 3), (61, .ireturn, 1)]
set_option maxRecDepth 100000 in
theorem T_X8_onPlace : ∀ q ∈ I_X8_onPlace, decode cX8_onPlace q.1 = .ok (q.2.1, q.2.2) := by decide +kernel
def f_X8_onPlace_j42 (t0 : Nat) (σ : St) : Option (Int32) :=
  some (-2)
set_option maxHeartbeats 4000000 in
set_option maxRecDepth 100000 in
theorem w_X8_onPlace_j42 (X : Cx g RX8 cX8_onPlace 6 (some .int) p s m args meth c) (t0 : Nat) (hk0 : kd t0 = 9) (σ : St) {w : Int32} (KR : ∀ (H : Heap) (locs : List Loc) (ls : Array Slot) (pc : Nat), Wd g s σ H locs → decode cX8_onPlace pc = .ok (.ireturn, 1) → W p l e (rmm 1 23) s m args below meth c H locs 0 0 Q (F0 m pc ls [.int (w)])) {H : Heap} {locs : List Loc} {ls : Array Slot} (Y : Wd g s σ H locs) (hl : lv_has ls 6 []) (h : f_X8_onPlace_j42 t0 σ = some w) : W p l e (rmm 1 23) s m args below meth c H locs 0 0 Q (F0 m 42 ls []) := by
  unfold f_X8_onPlace_j42 at h
  refine lv_bipush (v := (-2)) X.1 X.2.1 (dk T_X8_onPlace 22 rfl) bp_m2 ?_
  obtain rfl := Option.some.inj h
  exact KR _ _ _ _ Y (dk T_X8_onPlace 23 rfl)
def f_X8_onPlace_0 (t0 : Nat) (x1 : Int32) (x2 : Int32) (x3 : Int32) (σ : St) : Option (Int32) :=
  (f_X9_get (t0 + 1) x1 0 σ).bind fun q1 => (f_X9_get (t0 + 1) x1 1 σ).bind fun q2 => if x2 < 0 then f_X8_onPlace_j42 t0 σ else if q1 ≤ x2 then f_X8_onPlace_j42 t0 σ else if x3 < 0 then f_X8_onPlace_j42 t0 σ else if x3 < q2 then (f_X9_get (t0 + 1) x1 ((3 + x2) + (q1 * x3)) σ).bind fun q7 => some q7 else f_X8_onPlace_j42 t0 σ
set_option maxHeartbeats 4000000 in
set_option maxRecDepth 100000 in
theorem w_X8_onPlace_0 (X : Cx g RX8 cX8_onPlace 6 (some .int) p s m args meth c) (t0 : Nat) (hk0 : kd t0 = 9) (x1 : Int32) (x2 : Int32) (x3 : Int32) (σ : St) {w : Int32} (KR : ∀ (H : Heap) (locs : List Loc) (ls : Array Slot) (pc : Nat), Wd g s σ H locs → decode cX8_onPlace pc = .ok (.ireturn, 1) → W p l e (rmm 1 23) s m args below meth c H locs 0 0 Q (F0 m pc ls [.int (w)])) {H : Heap} {locs : List Loc} {ls : Array Slot} (Y : Wd g s σ H locs) (hl : lv_has ls 6 [(0, .ref (g.2.2 (t0))), (1, .int (x1)), (2, .int (x2)), (3, .int (x3))]) (h : f_X8_onPlace_0 t0 x1 x2 x3 σ = some w) : W p l e (rmm 1 23) s m args below meth c H locs 0 0 Q (F0 m 0 ls []) := by
  unfold f_X8_onPlace_0 at h
  refine lv_aload_n X.1 X.2.1 (dk T_X8_onPlace 0 rfl) rfl (lv_at hl 0 rfl) ?_
  refine gg X Y fl_X8_14 hk0 rfl (dk T_X8_onPlace 1 rfl) ?_
  refine lv_iload_n X.1 X.2.1 (dk T_X8_onPlace 2 rfl) rfl (lv_at hl 1 rfl) ?_
  refine lv_iconst (v := 0) X.1 X.2.1 (dk T_X8_onPlace 3 rfl) ic_0 ?_
  obtain ⟨q1, hq1, h⟩ := bs h
  refine gvI (rest := []) X Y (c_X9_get (t0 + 1) (ks1 hk0) x1 0 σ hq1) cb_X8_30 (ks1 hk0) hl.1 rfl rfl (Nat.le_of_ble_eq_true rfl) ⟨Nat.le_of_ble_eq_true rfl, Nat.le_of_ble_eq_true rfl⟩ (dk T_X8_onPlace 4 rfl) (fun H locs Y => ?_)
  refine lv_istore (lv' := [(4, .int (q1)), (0, .ref (g.2.2 (t0))), (1, .int (x1)), (2, .int (x2)), (3, .int (x3))]) X.1 X.2.1 (dk T_X8_onPlace 5 rfl) hl (Nat.le_of_ble_eq_true rfl) rfl (fun ls hl => ?_)
  refine lv_aload_n X.1 X.2.1 (dk T_X8_onPlace 6 rfl) rfl (lv_at hl 1 rfl) ?_
  refine gg X Y fl_X8_14 hk0 rfl (dk T_X8_onPlace 7 rfl) ?_
  refine lv_iload_n X.1 X.2.1 (dk T_X8_onPlace 8 rfl) rfl (lv_at hl 2 rfl) ?_
  refine lv_iconst (v := 1) X.1 X.2.1 (dk T_X8_onPlace 9 rfl) ic_1 ?_
  obtain ⟨q2, hq2, h⟩ := bs h
  refine gvI (rest := []) X Y (c_X9_get (t0 + 1) (ks1 hk0) x1 1 σ hq2) cb_X8_30 (ks1 hk0) hl.1 rfl rfl (Nat.le_of_ble_eq_true rfl) ⟨Nat.le_of_ble_eq_true rfl, Nat.le_of_ble_eq_true rfl⟩ (dk T_X8_onPlace 10 rfl) (fun H locs Y => ?_)
  refine lv_istore (lv' := [(5, .int (q2)), (4, .int (q1)), (0, .ref (g.2.2 (t0))), (1, .int (x1)), (2, .int (x2)), (3, .int (x3))]) X.1 X.2.1 (dk T_X8_onPlace 11 rfl) hl (Nat.le_of_ble_eq_true rfl) rfl (fun ls hl => ?_)
  refine lv_iload_n X.1 X.2.1 (dk T_X8_onPlace 12 rfl) rfl (lv_at hl 4 rfl) ?_
  refine lv_if_lt (tgt := 42) X.1 X.2.1 (dk T_X8_onPlace 13 rfl) rfl (fun c3 => ?_) (fun c3 => ?_)
  · replace h := ipos c3 h
    exact w_X8_onPlace_j42 X t0 hk0 σ KR Y (lv_sub hl [] rfl) h
  · replace h := ineg c3 h
    refine lv_iload_n X.1 X.2.1 (dk T_X8_onPlace 14 rfl) rfl (lv_at hl 4 rfl) ?_
    refine lv_iload X.1 X.2.1 (dk T_X8_onPlace 15 rfl) (lv_at hl 1 rfl) ?_
    refine lv_icmp_ge (tgt := 42) X.1 X.2.1 (dk T_X8_onPlace 16 rfl) rfl (fun c4 => ?_) (fun c4 => ?_)
    · replace h := ipos c4 h
      exact w_X8_onPlace_j42 X t0 hk0 σ KR Y (lv_sub hl [] rfl) h
    · replace h := ineg c4 h
      refine lv_iload_n X.1 X.2.1 (dk T_X8_onPlace 17 rfl) rfl (lv_at hl 5 rfl) ?_
      refine lv_if_lt (tgt := 42) X.1 X.2.1 (dk T_X8_onPlace 18 rfl) rfl (fun c5 => ?_) (fun c5 => ?_)
      · replace h := ipos c5 h
        exact w_X8_onPlace_j42 X t0 hk0 σ KR Y (lv_sub hl [] rfl) h
      · replace h := ineg c5 h
        refine lv_iload_n X.1 X.2.1 (dk T_X8_onPlace 19 rfl) rfl (lv_at hl 5 rfl) ?_
        refine lv_iload X.1 X.2.1 (dk T_X8_onPlace 20 rfl) (lv_at hl 0 rfl) ?_
        refine lv_icmp_lt (tgt := 45) X.1 X.2.1 (dk T_X8_onPlace 21 rfl) rfl (fun c6 => ?_) (fun c6 => ?_)
        · replace h := ipos c6 h
          refine lv_aload_n X.1 X.2.1 (dk T_X8_onPlace 24 rfl) rfl (lv_at hl 2 rfl) ?_
          refine gg X Y fl_X8_14 hk0 rfl (dk T_X8_onPlace 25 rfl) ?_
          refine lv_iload_n X.1 X.2.1 (dk T_X8_onPlace 26 rfl) rfl (lv_at hl 3 rfl) ?_
          refine lv_iconst (v := 3) X.1 X.2.1 (dk T_X8_onPlace 27 rfl) ic_3 ?_
          refine lv_iload_n X.1 X.2.1 (dk T_X8_onPlace 28 rfl) rfl (lv_at hl 4 rfl) ?_
          refine lv_iadd X.1 X.2.1 (dk T_X8_onPlace 29 rfl) ?_
          refine lv_iload X.1 X.2.1 (dk T_X8_onPlace 30 rfl) (lv_at hl 1 rfl) ?_
          refine lv_iload_n X.1 X.2.1 (dk T_X8_onPlace 31 rfl) rfl (lv_at hl 5 rfl) ?_
          refine lv_imul X.1 X.2.1 (dk T_X8_onPlace 32 rfl) ?_
          refine lv_iadd X.1 X.2.1 (dk T_X8_onPlace 33 rfl) ?_
          obtain ⟨q7, hq7, h⟩ := bs h
          refine gvI (rest := []) X Y (c_X9_get (t0 + 1) (ks1 hk0) x1 ((3 + x2) + (q1 * x3)) σ hq7) cb_X8_30 (ks1 hk0) hl.1 rfl rfl (Nat.le_of_ble_eq_true rfl) ⟨Nat.le_of_ble_eq_true rfl, Nat.le_of_ble_eq_true rfl⟩ (dk T_X8_onPlace 34 rfl) (fun H locs Y => ?_)
          obtain rfl := Option.some.inj h
          exact KR _ _ _ _ Y (dk T_X8_onPlace 35 rfl)
        · replace h := ineg c6 h
          exact w_X8_onPlace_j42 X t0 hk0 σ KR Y (lv_sub hl [] rfl) h
def f_X8_onPlace (t0 : Nat) (x1 : Int32) (x2 : Int32) (x3 : Int32) (σ : St) : Option (Int32) := f_X8_onPlace_0 t0 x1 x2 x3 σ
set_option maxHeartbeats 4000000 in
set_option maxRecDepth 100000 in
theorem c_X8_onPlace {l : Launch} {g : Geo} (t0 : Nat) (hk0 : kd t0 = 9) (x1 : Int32) (x2 : Int32) (x3 : Int32) (σ : St) {w : Int32} (h : f_X8_onPlace t0 x1 x2 x3 σ = some w) : CtI l yX8_onPlace cX8_onPlace 6 (some .int) (rmm 1 23) g [.ref (g.2.2 (t0)), .int (x1), .int (x2), .int (x3)] σ w σ := enI .int (by decide) rfl rfl (Nat.le_of_ble_eq_true rfl) (fun p e s m args below meth c Q X Y ls hl KR => w_X8_onPlace_0 X t0 hk0 x1 x2 x3 σ KR Y hl h)
def I_X8_isCut : List (Nat × Instr × Nat) := [(0, .iload_n 0, 1), (1, .ifCond .lt 11, 3), (4, .iload_n 1, 1), (5, .ifCond .lt 7, 3), (8, .iconst 1, 1), (9, .goto 4, 3), (12, .iconst 0, 1), (13, .istore_n 3, 1), (14, .iload_n 0, 1), (15, .iload_n 1, 1), (16, .if_icmp .eq 23, 3), (19, .iload_n 3, 1), (20, .ifCond .ne 15, 3), (23, .iload_n 2, 1), (24, .ifCond .ne 15, 3), (27, .iload_n 0, 1), (28, .ifCond .ge 7, 3), (31, .iload_n 1, 1), (32, .ifCond .lt 7, 3), (35, .iconst 1, 1), (36, .goto 4, 3), (39, .iconst 0, 1), (40, .ireturn, 1)]
set_option maxRecDepth 100000 in
theorem T_X8_isCut : ∀ q ∈ I_X8_isCut, decode cX8_isCut q.1 = .ok (q.2.1, q.2.2) := by decide +kernel
def f_X8_isCut_j35 : Option (Int32) :=
  some 1
set_option maxHeartbeats 4000000 in
set_option maxRecDepth 100000 in
theorem w_X8_isCut_j35 (X : Cx g RX8 cX8_isCut 4 (some .boolean) p s m args meth c) (σ : St) {w : Int32} (KR : ∀ (H : Heap) (locs : List Loc) (ls : Array Slot) (pc : Nat), Wd g s σ H locs → decode cX8_isCut pc = .ok (.ireturn, 1) → W p l e (rmm 0 0) s m args below meth c H locs 0 0 Q (F0 m pc ls [.int (w)])) {H : Heap} {locs : List Loc} {ls : Array Slot} (Y : Wd g s σ H locs) (hl : lv_has ls 4 []) (h : f_X8_isCut_j35 = some w) : W p l e (rmm 0 0) s m args below meth c H locs 0 0 Q (F0 m 35 ls []) := by
  unfold f_X8_isCut_j35 at h
  refine lv_iconst (v := 1) X.1 X.2.1 (dk T_X8_isCut 19 rfl) ic_1 ?_
  refine lv_goto (tgt := 40) X.1 X.2.1 (dk T_X8_isCut 20 rfl) rfl ?_
  obtain rfl := Option.some.inj h
  exact KR _ _ _ _ Y (dk T_X8_isCut 22 rfl)
def f_X8_isCut_j13 (x0 : Int32) (x1 : Int32) (x2 : Int32) (s0 : Int32) : Option (Int32) :=
  if x0 = x1 then some 0 else if s0 = 0 then if x2 = 0 then if 0 ≤ x0 then f_X8_isCut_j35 else if x1 < 0 then some 0 else f_X8_isCut_j35 else some 0 else f_X8_isCut_j35
set_option maxHeartbeats 4000000 in
set_option maxRecDepth 100000 in
theorem w_X8_isCut_j13 (X : Cx g RX8 cX8_isCut 4 (some .boolean) p s m args meth c) (x0 : Int32) (x1 : Int32) (x2 : Int32) (s0 : Int32) (σ : St) {w : Int32} (KR : ∀ (H : Heap) (locs : List Loc) (ls : Array Slot) (pc : Nat), Wd g s σ H locs → decode cX8_isCut pc = .ok (.ireturn, 1) → W p l e (rmm 0 0) s m args below meth c H locs 0 0 Q (F0 m pc ls [.int (w)])) {H : Heap} {locs : List Loc} {ls : Array Slot} (Y : Wd g s σ H locs) (hl : lv_has ls 4 [(0, .int (x0)), (1, .int (x1)), (2, .int (x2))]) (h : f_X8_isCut_j13 x0 x1 x2 s0 = some w) : W p l e (rmm 0 0) s m args below meth c H locs 0 0 Q (F0 m 13 ls [.int (s0)]) := by
  unfold f_X8_isCut_j13 at h
  refine lv_istore_n (lv' := [(3, .int (s0)), (0, .int (x0)), (1, .int (x1)), (2, .int (x2))]) X.1 X.2.1 (dk T_X8_isCut 7 rfl) rfl hl (Nat.le_of_ble_eq_true rfl) rfl (fun ls hl => ?_)
  refine lv_iload_n X.1 X.2.1 (dk T_X8_isCut 8 rfl) rfl (lv_at hl 1 rfl) ?_
  refine lv_iload_n X.1 X.2.1 (dk T_X8_isCut 9 rfl) rfl (lv_at hl 2 rfl) ?_
  refine lv_icmp_eq (tgt := 39) X.1 X.2.1 (dk T_X8_isCut 10 rfl) rfl (fun c2 => ?_) (fun c2 => ?_)
  · replace h := ipos c2 h
    refine lv_iconst (v := 0) X.1 X.2.1 (dk T_X8_isCut 21 rfl) ic_0 ?_
    obtain rfl := Option.some.inj h
    exact KR _ _ _ _ Y (dk T_X8_isCut 22 rfl)
  · replace h := ineg c2 h
    refine lv_iload_n X.1 X.2.1 (dk T_X8_isCut 11 rfl) rfl (lv_at hl 0 rfl) ?_
    refine lv_if_ne (tgt := 35) X.1 X.2.1 (dk T_X8_isCut 12 rfl) rfl (fun c3 => ?_) (fun c3 => ?_)
    · replace h := ineg c3 h
      exact w_X8_isCut_j35 X σ KR Y (lv_sub hl [] rfl) h
    · replace h := ipos c3 h
      refine lv_iload_n X.1 X.2.1 (dk T_X8_isCut 13 rfl) rfl (lv_at hl 3 rfl) ?_
      refine lv_if_ne (tgt := 39) X.1 X.2.1 (dk T_X8_isCut 14 rfl) rfl (fun c4 => ?_) (fun c4 => ?_)
      · replace h := ineg c4 h
        refine lv_iconst (v := 0) X.1 X.2.1 (dk T_X8_isCut 21 rfl) ic_0 ?_
        obtain rfl := Option.some.inj h
        exact KR _ _ _ _ Y (dk T_X8_isCut 22 rfl)
      · replace h := ipos c4 h
        refine lv_iload_n X.1 X.2.1 (dk T_X8_isCut 15 rfl) rfl (lv_at hl 1 rfl) ?_
        refine lv_if_ge (tgt := 35) X.1 X.2.1 (dk T_X8_isCut 16 rfl) rfl (fun c5 => ?_) (fun c5 => ?_)
        · replace h := ipos c5 h
          exact w_X8_isCut_j35 X σ KR Y (lv_sub hl [] rfl) h
        · replace h := ineg c5 h
          refine lv_iload_n X.1 X.2.1 (dk T_X8_isCut 17 rfl) rfl (lv_at hl 2 rfl) ?_
          refine lv_if_lt (tgt := 39) X.1 X.2.1 (dk T_X8_isCut 18 rfl) rfl (fun c6 => ?_) (fun c6 => ?_)
          · replace h := ipos c6 h
            refine lv_iconst (v := 0) X.1 X.2.1 (dk T_X8_isCut 21 rfl) ic_0 ?_
            obtain rfl := Option.some.inj h
            exact KR _ _ _ _ Y (dk T_X8_isCut 22 rfl)
          · replace h := ineg c6 h
            exact w_X8_isCut_j35 X σ KR Y (lv_sub hl [] rfl) h
def f_X8_isCut_j12 (x0 : Int32) (x1 : Int32) (x2 : Int32) : Option (Int32) :=
  f_X8_isCut_j13 x0 x1 x2 0
set_option maxHeartbeats 4000000 in
set_option maxRecDepth 100000 in
theorem w_X8_isCut_j12 (X : Cx g RX8 cX8_isCut 4 (some .boolean) p s m args meth c) (x0 : Int32) (x1 : Int32) (x2 : Int32) (σ : St) {w : Int32} (KR : ∀ (H : Heap) (locs : List Loc) (ls : Array Slot) (pc : Nat), Wd g s σ H locs → decode cX8_isCut pc = .ok (.ireturn, 1) → W p l e (rmm 0 0) s m args below meth c H locs 0 0 Q (F0 m pc ls [.int (w)])) {H : Heap} {locs : List Loc} {ls : Array Slot} (Y : Wd g s σ H locs) (hl : lv_has ls 4 [(0, .int (x0)), (1, .int (x1)), (2, .int (x2))]) (h : f_X8_isCut_j12 x0 x1 x2 = some w) : W p l e (rmm 0 0) s m args below meth c H locs 0 0 Q (F0 m 12 ls []) := by
  unfold f_X8_isCut_j12 at h
  refine lv_iconst (v := 0) X.1 X.2.1 (dk T_X8_isCut 6 rfl) ic_0 ?_
  exact w_X8_isCut_j13 X x0 x1 x2 0 σ KR Y (lv_sub hl [0, 1, 2] rfl) h
def f_X8_isCut_0 (x0 : Int32) (x1 : Int32) (x2 : Int32) : Option (Int32) :=
  if x0 < 0 then f_X8_isCut_j12 x0 x1 x2 else if x1 < 0 then f_X8_isCut_j12 x0 x1 x2 else f_X8_isCut_j13 x0 x1 x2 1
set_option maxHeartbeats 4000000 in
set_option maxRecDepth 100000 in
theorem w_X8_isCut_0 (X : Cx g RX8 cX8_isCut 4 (some .boolean) p s m args meth c) (x0 : Int32) (x1 : Int32) (x2 : Int32) (σ : St) {w : Int32} (KR : ∀ (H : Heap) (locs : List Loc) (ls : Array Slot) (pc : Nat), Wd g s σ H locs → decode cX8_isCut pc = .ok (.ireturn, 1) → W p l e (rmm 0 0) s m args below meth c H locs 0 0 Q (F0 m pc ls [.int (w)])) {H : Heap} {locs : List Loc} {ls : Array Slot} (Y : Wd g s σ H locs) (hl : lv_has ls 4 [(0, .int (x0)), (1, .int (x1)), (2, .int (x2))]) (h : f_X8_isCut_0 x0 x1 x2 = some w) : W p l e (rmm 0 0) s m args below meth c H locs 0 0 Q (F0 m 0 ls []) := by
  unfold f_X8_isCut_0 at h
  refine lv_iload_n X.1 X.2.1 (dk T_X8_isCut 0 rfl) rfl (lv_at hl 0 rfl) ?_
  refine lv_if_lt (tgt := 12) X.1 X.2.1 (dk T_X8_isCut 1 rfl) rfl (fun c1 => ?_) (fun c1 => ?_)
  · replace h := ipos c1 h
    exact w_X8_isCut_j12 X x0 x1 x2 σ KR Y (lv_sub hl [0, 1, 2] rfl) h
  · replace h := ineg c1 h
    refine lv_iload_n X.1 X.2.1 (dk T_X8_isCut 2 rfl) rfl (lv_at hl 1 rfl) ?_
    refine lv_if_lt (tgt := 12) X.1 X.2.1 (dk T_X8_isCut 3 rfl) rfl (fun c7 => ?_) (fun c7 => ?_)
    · replace h := ipos c7 h
      exact w_X8_isCut_j12 X x0 x1 x2 σ KR Y (lv_sub hl [0, 1, 2] rfl) h
    · replace h := ineg c7 h
      refine lv_iconst (v := 1) X.1 X.2.1 (dk T_X8_isCut 4 rfl) ic_1 ?_
      refine lv_goto (tgt := 13) X.1 X.2.1 (dk T_X8_isCut 5 rfl) rfl ?_
      exact w_X8_isCut_j13 X x0 x1 x2 1 σ KR Y (lv_sub hl [0, 1, 2] rfl) h
def f_X8_isCut (x0 : Int32) (x1 : Int32) (x2 : Int32) : Option (Int32) := bz (f_X8_isCut_0 x0 x1 x2)
set_option maxHeartbeats 4000000 in
set_option maxRecDepth 100000 in
theorem c_X8_isCut {l : Launch} {g : Geo} (x0 : Int32) (x1 : Int32) (x2 : Int32) (σ : St) {w : Int32} (h : f_X8_isCut x0 x1 x2 = some w) : CtI l yX8_isCut cX8_isCut 4 (some .boolean) (rmm 0 0) g [.int (x0), .int (x1), .int (x2)] σ w σ := by
  obtain ⟨h, hz⟩ := bz_s h
  exact enI .boolean (by decide) rfl (bz_n hz) (Nat.le_of_ble_eq_true rfl) (fun p e s m args below meth c Q X Y ls hl KR => w_X8_isCut_0 X x0 x1 x2 σ KR Y hl h)
def I_X8_cutsOn : List (Nat × Instr × Nat) := [(0, .iconst 0, 1), (1, .istore_n 3, 1), (2, .iconst 0, 1), (3, .istore 4, 2), (5, .iload 4, 2), (7, .aload_n 0, 1), (8, .iload_n 1, 1), (9, .invokevirtual 38, 3), (12, .if_icmp .ge 109, 3), (15, .iconst 0, 1), (16, .istore 5, 2), (18, .iload 5, 2), (20, .aload_n 0, 1), (21, .iload_n 1, 1), (22, .invokevirtual 34, 3), (25, .if_icmp .ge 90, 3), (28, .aload_n 0, 1), (29, .iload_n 1, 1), (30, .iload 5, 2), (32, .iload 4, 2), (34, .invokevirtual 104, 3), (37, .istore 6, 2), (39, .iload 5, 2), (41, .iconst 1, 1), (42, .iadd, 1), (43, .aload_n 0, 1), (44, .iload_n 1, 1), (45, .invokevirtual 34, 3), (48, .if_icmp .ge 26, 3), (51, .iload 6, 2), (53, .aload_n 0, 1), (54, .iload_n 1, 1), (55, .iload 5, 2), (57, .iconst 1, 1), (58, .iadd, 1), (59, .iload 4, 2), (61, .invokevirtual 104, 3), (64, .iload_n 2, 1), (65, .invokestatic 107, 3), (68, .ifCond .eq 6, 3), (71, .iinc 3 1, 3), (74, .iload 4, 2), (76, .iconst 1, 1), (77, .iadd, 1), (78, .aload_n 0, 1), (79, .iload_n 1, 1), (80, .invokevirtual 38, 3), (83, .if_icmp .ge 26, 3), (86, .iload 6, 2), (88, .aload_n 0, 1), (89, .iload_n 1, 1), (90, .iload 5, 2), (92, .iload 4, 2), (94, .iconst 1, 1), (95, .iadd, 1), (96, .invokevirtual 104, 3), (99, .iload_n 2, 1), (100, .invokestatic 107, 3), (103, .ifCond .eq 6, 3), (106, .iinc 3 1, 3), (109, .iinc 5 1, 3), (112, .goto (-94), 3), (115, .iinc 4 1, 3), (118, .goto (-113), 3), (121, .iload_n 3, 1), (122, .ireturn, 1)]
set_option maxRecDepth 100000 in
theorem T_X8_cutsOn : ∀ q ∈ I_X8_cutsOn, decode cX8_cutsOn q.1 = .ok (q.2.1, q.2.2) := by decide +kernel
def f_X8_cutsOn_j109 (t0 : Nat) (x1 : Int32) (x2 : Int32) (x3 : Int32) (x4 : Int32) (x5 : Int32) (σ : St) : Option ((Int32 × Int32) ⊕ (Int32)) :=
  some (.inl (x3, x5 + 1))
set_option maxHeartbeats 4000000 in
set_option maxRecDepth 100000 in
theorem w_X8_cutsOn_j109 (X : Cx g RX8 cX8_cutsOn 7 (some .int) p s m args meth c) (t0 : Nat) (hk0 : kd t0 = 9) (x1 : Int32) (x2 : Int32) (x3 : Int32) (x4 : Int32) (x5 : Int32) (σ : St) {w : (Int32 × Int32) ⊕ (Int32)} (KB : ∀ (v0_ : Int32) (v1_ : Int32), w = .inl (v0_, v1_) → ∀ (H : Heap) (locs : List Loc) (ls : Array Slot), Wd g s σ H locs → lv_has ls 7 [(0, .ref (g.2.2 (t0))), (1, .int (x1)), (2, .int (x2)), (3, .int (v0_)), (4, .int (x4)), (5, .int (v1_))] → W p l e (rmm 2 48) s m args below meth c H locs 0 0 Q (F0 m 18 ls [])) (KX0 : ∀ (v : Int32), w = .inr v → ∀ (H : Heap) (locs : List Loc) (ls : Array Slot), Wd g s σ H locs → lv_has ls 7 [(0, .ref (g.2.2 (t0))), (1, .int (x1)), (2, .int (x2)), (3, .int (v)), (4, .int (x4))] → W p l e (rmm 2 48) s m args below meth c H locs 0 0 Q (F0 m 115 ls [])) {H : Heap} {locs : List Loc} {ls : Array Slot} (Y : Wd g s σ H locs) (hl : lv_has ls 7 [(0, .ref (g.2.2 (t0))), (1, .int (x1)), (2, .int (x2)), (3, .int (x3)), (4, .int (x4)), (5, .int (x5))]) (h : f_X8_cutsOn_j109 t0 x1 x2 x3 x4 x5 σ = some w) : W p l e (rmm 2 48) s m args below meth c H locs 0 0 Q (F0 m 109 ls []) := by
  unfold f_X8_cutsOn_j109 at h
  refine lv_iinc (v := x5 + 1) (lv' := [(5, .int (x5 + 1)), (0, .ref (g.2.2 (t0))), (1, .int (x1)), (2, .int (x2)), (3, .int (x3)), (4, .int (x4))]) X.1 X.2.1 (dk T_X8_cutsOn 60 rfl) hl (k := 5) rfl (icx ic_1) (Nat.le_of_ble_eq_true rfl) rfl (fun ls hl => ?_)
  refine lv_goto (tgt := 18) X.1 X.2.1 (dk T_X8_cutsOn 61 rfl) rfl ?_
  exact KB x3 (x5 + 1) (Option.some.inj h).symm _ _ _ Y (lv_sub hl [1, 2, 3, 4, 5, 0] rfl)
def f_X8_cutsOn_j74 (t0 : Nat) (x1 : Int32) (x2 : Int32) (x3 : Int32) (x4 : Int32) (x5 : Int32) (x6 : Int32) (σ : St) : Option ((Int32 × Int32) ⊕ (Int32)) :=
  (f_X8_rowsOf t0 x1 σ).bind fun q8 => if q8 ≤ (x4 + 1) then f_X8_cutsOn_j109 t0 x1 x2 x3 x4 x5 σ else (f_X8_onPlace t0 x1 x5 (x4 + 1) σ).bind fun q10 => (f_X8_isCut x6 q10 x2).bind fun q11 => if q11 = 0 then f_X8_cutsOn_j109 t0 x1 x2 x3 x4 x5 σ else f_X8_cutsOn_j109 t0 x1 x2 (x3 + 1) x4 x5 σ
set_option maxHeartbeats 4000000 in
set_option maxRecDepth 100000 in
theorem w_X8_cutsOn_j74 (X : Cx g RX8 cX8_cutsOn 7 (some .int) p s m args meth c) (t0 : Nat) (hk0 : kd t0 = 9) (x1 : Int32) (x2 : Int32) (x3 : Int32) (x4 : Int32) (x5 : Int32) (x6 : Int32) (σ : St) {w : (Int32 × Int32) ⊕ (Int32)} (KB : ∀ (v0_ : Int32) (v1_ : Int32), w = .inl (v0_, v1_) → ∀ (H : Heap) (locs : List Loc) (ls : Array Slot), Wd g s σ H locs → lv_has ls 7 [(0, .ref (g.2.2 (t0))), (1, .int (x1)), (2, .int (x2)), (3, .int (v0_)), (4, .int (x4)), (5, .int (v1_))] → W p l e (rmm 2 48) s m args below meth c H locs 0 0 Q (F0 m 18 ls [])) (KX0 : ∀ (v : Int32), w = .inr v → ∀ (H : Heap) (locs : List Loc) (ls : Array Slot), Wd g s σ H locs → lv_has ls 7 [(0, .ref (g.2.2 (t0))), (1, .int (x1)), (2, .int (x2)), (3, .int (v)), (4, .int (x4))] → W p l e (rmm 2 48) s m args below meth c H locs 0 0 Q (F0 m 115 ls [])) {H : Heap} {locs : List Loc} {ls : Array Slot} (Y : Wd g s σ H locs) (hl : lv_has ls 7 [(0, .ref (g.2.2 (t0))), (1, .int (x1)), (2, .int (x2)), (3, .int (x3)), (4, .int (x4)), (5, .int (x5)), (6, .int (x6))]) (h : f_X8_cutsOn_j74 t0 x1 x2 x3 x4 x5 x6 σ = some w) : W p l e (rmm 2 48) s m args below meth c H locs 0 0 Q (F0 m 74 ls []) := by
  unfold f_X8_cutsOn_j74 at h
  refine lv_iload X.1 X.2.1 (dk T_X8_cutsOn 41 rfl) (lv_at hl 4 rfl) ?_
  refine lv_iconst (v := 1) X.1 X.2.1 (dk T_X8_cutsOn 42 rfl) ic_1 ?_
  refine lv_iadd X.1 X.2.1 (dk T_X8_cutsOn 43 rfl) ?_
  refine lv_aload_n X.1 X.2.1 (dk T_X8_cutsOn 44 rfl) rfl (lv_at hl 0 rfl) ?_
  refine lv_iload_n X.1 X.2.1 (dk T_X8_cutsOn 45 rfl) rfl (lv_at hl 1 rfl) ?_
  obtain ⟨q8, hq8, h⟩ := bs h
  refine gvI (rest := [.int (x4 + 1)]) X Y (c_X8_rowsOf t0 hk0 x1 σ hq8) cb_X8_38 hk0 hl.1 rfl rfl (Nat.le_of_ble_eq_true rfl) ⟨Nat.le_of_ble_eq_true rfl, Nat.le_of_ble_eq_true rfl⟩ (dk T_X8_cutsOn 46 rfl) (fun H locs Y => ?_)
  refine lv_icmp_ge (tgt := 109) X.1 X.2.1 (dk T_X8_cutsOn 47 rfl) rfl (fun c9 => ?_) (fun c9 => ?_)
  · replace h := ipos c9 h
    exact w_X8_cutsOn_j109 X t0 hk0 x1 x2 x3 x4 x5 σ KB KX0 Y (lv_sub hl [0, 1, 2, 3, 4, 5] rfl) h
  · replace h := ineg c9 h
    refine lv_iload X.1 X.2.1 (dk T_X8_cutsOn 48 rfl) (lv_at hl 6 rfl) ?_
    refine lv_aload_n X.1 X.2.1 (dk T_X8_cutsOn 49 rfl) rfl (lv_at hl 0 rfl) ?_
    refine lv_iload_n X.1 X.2.1 (dk T_X8_cutsOn 50 rfl) rfl (lv_at hl 1 rfl) ?_
    refine lv_iload X.1 X.2.1 (dk T_X8_cutsOn 51 rfl) (lv_at hl 5 rfl) ?_
    refine lv_iload X.1 X.2.1 (dk T_X8_cutsOn 52 rfl) (lv_at hl 4 rfl) ?_
    refine lv_iconst (v := 1) X.1 X.2.1 (dk T_X8_cutsOn 53 rfl) ic_1 ?_
    refine lv_iadd X.1 X.2.1 (dk T_X8_cutsOn 54 rfl) ?_
    obtain ⟨q10, hq10, h⟩ := bs h
    refine gvI (rest := [.int (x6)]) X Y (c_X8_onPlace t0 hk0 x1 x5 (x4 + 1) σ hq10) cb_X8_104 hk0 hl.1 rfl rfl (Nat.le_of_ble_eq_true rfl) ⟨Nat.le_of_ble_eq_true rfl, Nat.le_of_ble_eq_true rfl⟩ (dk T_X8_cutsOn 55 rfl) (fun H locs Y => ?_)
    refine lv_iload_n X.1 X.2.1 (dk T_X8_cutsOn 56 rfl) rfl (lv_at hl 2 rfl) ?_
    obtain ⟨q11, hq11, h⟩ := bs h
    refine gsI (rest := []) X Y (c_X8_isCut x6 q10 x2 σ hq11) cb_X8_107 hl.1 rfl rfl (Nat.le_of_ble_eq_true rfl) ⟨Nat.le_of_ble_eq_true rfl, Nat.le_of_ble_eq_true rfl⟩ (dk T_X8_cutsOn 57 rfl) (fun H locs Y => ?_)
    refine lv_if_eq (tgt := 109) X.1 X.2.1 (dk T_X8_cutsOn 58 rfl) rfl (fun c12 => ?_) (fun c12 => ?_)
    · replace h := ipos c12 h
      exact w_X8_cutsOn_j109 X t0 hk0 x1 x2 x3 x4 x5 σ KB KX0 Y (lv_sub hl [0, 1, 2, 3, 4, 5] rfl) h
    · replace h := ineg c12 h
      refine lv_iinc (v := x3 + 1) (lv' := [(3, .int (x3 + 1)), (0, .ref (g.2.2 (t0))), (1, .int (x1)), (2, .int (x2)), (4, .int (x4)), (5, .int (x5)), (6, .int (x6))]) X.1 X.2.1 (dk T_X8_cutsOn 59 rfl) hl (k := 3) rfl (icx ic_1) (Nat.le_of_ble_eq_true rfl) rfl (fun ls hl => ?_)
      exact w_X8_cutsOn_j109 X t0 hk0 x1 x2 (x3 + 1) x4 x5 σ KB KX0 Y (lv_sub hl [1, 2, 3, 0, 4, 5] rfl) h
def f_X8_cutsOn_l18 (t0 : Nat) (x1 : Int32) (x2 : Int32) (x4 : Int32) (σ : St) (z : Int32 × Int32) : Option ((Int32 × Int32) ⊕ (Int32)) :=
  (f_X8_columnsOf t0 x1 σ).bind fun q3 => if q3 ≤ z.2 then some (.inr z.1) else (f_X8_onPlace t0 x1 z.2 x4 σ).bind fun q5 => (f_X8_columnsOf t0 x1 σ).bind fun q6 => if q6 ≤ (z.2 + 1) then f_X8_cutsOn_j74 t0 x1 x2 z.1 x4 z.2 q5 σ else (f_X8_onPlace t0 x1 (z.2 + 1) x4 σ).bind fun q13 => (f_X8_isCut q5 q13 x2).bind fun q14 => if q14 = 0 then f_X8_cutsOn_j74 t0 x1 x2 z.1 x4 z.2 q5 σ else f_X8_cutsOn_j74 t0 x1 x2 (z.1 + 1) x4 z.2 q5 σ
set_option maxHeartbeats 4000000 in
set_option maxRecDepth 100000 in
theorem w_X8_cutsOn_l18 (X : Cx g RX8 cX8_cutsOn 7 (some .int) p s m args meth c) (t0 : Nat) (hk0 : kd t0 = 9) (x1 : Int32) (x2 : Int32) (x4 : Int32) (σ : St) {r : Int32} (KX0 : ∀ (v : Int32), r = v → ∀ (H : Heap) (locs : List Loc) (ls : Array Slot), Wd g s σ H locs → lv_has ls 7 [(0, .ref (g.2.2 (t0))), (1, .int (x1)), (2, .int (x2)), (3, .int (v)), (4, .int (x4))] → W p l e (rmm 2 48) s m args below meth c H locs 0 0 Q (F0 m 115 ls [])) : ∀ (n : Nat) (z : Int32 × Int32) {H : Heap} {locs : List Loc} {ls : Array Slot}, Wd g s σ H locs → lv_has ls 7 [(0, .ref (g.2.2 (t0))), (1, .int (x1)), (2, .int (x2)), (3, .int (z.1)), (4, .int (x4)), (5, .int (z.2))] → lp (f_X8_cutsOn_l18 t0 x1 x2 x4 σ) n z = some r → W p l e (rmm 2 48) s m args below meth c H locs 0 0 Q (F0 m 18 ls []) := by
  intro n
  induction n with
  | zero => intro z H locs ls Y hl h; cases h
  | succ n ih =>
    intro z H locs ls Y hl h
    obtain ⟨w, h, hw⟩ := lps h
    have KB : ∀ (v0_ : Int32) (v1_ : Int32), w = .inl (v0_, v1_) → ∀ (H : Heap) (locs : List Loc) (ls : Array Slot), Wd g s σ H locs → lv_has ls 7 [(0, .ref (g.2.2 (t0))), (1, .int (x1)), (2, .int (x2)), (3, .int (v0_)), (4, .int (x4)), (5, .int (v1_))] → W p l e (rmm 2 48) s m args below meth c H locs 0 0 Q (F0 m 18 ls []) := fun v0_ v1_ e H locs ls Y hl => ih (v0_, v1_) Y hl (lpl hw e)
    have KX0 := fun (v : Int32) (e : w = .inr v) => KX0 v (lpr hw e)
    unfold f_X8_cutsOn_l18 at h
    refine lv_iload X.1 X.2.1 (dk T_X8_cutsOn 11 rfl) (lv_at hl 5 rfl) ?_
    refine lv_aload_n X.1 X.2.1 (dk T_X8_cutsOn 12 rfl) rfl (lv_at hl 0 rfl) ?_
    refine lv_iload_n X.1 X.2.1 (dk T_X8_cutsOn 13 rfl) rfl (lv_at hl 1 rfl) ?_
    obtain ⟨q3, hq3, h⟩ := bs h
    refine gvI (rest := [.int (z.2)]) X Y (c_X8_columnsOf t0 hk0 x1 σ hq3) cb_X8_34 hk0 hl.1 rfl rfl (Nat.le_of_ble_eq_true rfl) ⟨Nat.le_of_ble_eq_true rfl, Nat.le_of_ble_eq_true rfl⟩ (dk T_X8_cutsOn 14 rfl) (fun H locs Y => ?_)
    refine lv_icmp_ge (tgt := 115) X.1 X.2.1 (dk T_X8_cutsOn 15 rfl) rfl (fun c4 => ?_) (fun c4 => ?_)
    · replace h := ipos c4 h
      exact KX0 z.1 (Option.some.inj h).symm _ _ _ Y (lv_sub hl [0, 1, 2, 3, 4] rfl)
    · replace h := ineg c4 h
      refine lv_aload_n X.1 X.2.1 (dk T_X8_cutsOn 16 rfl) rfl (lv_at hl 0 rfl) ?_
      refine lv_iload_n X.1 X.2.1 (dk T_X8_cutsOn 17 rfl) rfl (lv_at hl 1 rfl) ?_
      refine lv_iload X.1 X.2.1 (dk T_X8_cutsOn 18 rfl) (lv_at hl 5 rfl) ?_
      refine lv_iload X.1 X.2.1 (dk T_X8_cutsOn 19 rfl) (lv_at hl 4 rfl) ?_
      obtain ⟨q5, hq5, h⟩ := bs h
      refine gvI (rest := []) X Y (c_X8_onPlace t0 hk0 x1 z.2 x4 σ hq5) cb_X8_104 hk0 hl.1 rfl rfl (Nat.le_of_ble_eq_true rfl) ⟨Nat.le_of_ble_eq_true rfl, Nat.le_of_ble_eq_true rfl⟩ (dk T_X8_cutsOn 20 rfl) (fun H locs Y => ?_)
      refine lv_istore (lv' := [(6, .int (q5)), (0, .ref (g.2.2 (t0))), (1, .int (x1)), (2, .int (x2)), (3, .int (z.1)), (4, .int (x4)), (5, .int (z.2))]) X.1 X.2.1 (dk T_X8_cutsOn 21 rfl) hl (Nat.le_of_ble_eq_true rfl) rfl (fun ls hl => ?_)
      refine lv_iload X.1 X.2.1 (dk T_X8_cutsOn 22 rfl) (lv_at hl 6 rfl) ?_
      refine lv_iconst (v := 1) X.1 X.2.1 (dk T_X8_cutsOn 23 rfl) ic_1 ?_
      refine lv_iadd X.1 X.2.1 (dk T_X8_cutsOn 24 rfl) ?_
      refine lv_aload_n X.1 X.2.1 (dk T_X8_cutsOn 25 rfl) rfl (lv_at hl 1 rfl) ?_
      refine lv_iload_n X.1 X.2.1 (dk T_X8_cutsOn 26 rfl) rfl (lv_at hl 2 rfl) ?_
      obtain ⟨q6, hq6, h⟩ := bs h
      refine gvI (rest := [.int (z.2 + 1)]) X Y (c_X8_columnsOf t0 hk0 x1 σ hq6) cb_X8_34 hk0 hl.1 rfl rfl (Nat.le_of_ble_eq_true rfl) ⟨Nat.le_of_ble_eq_true rfl, Nat.le_of_ble_eq_true rfl⟩ (dk T_X8_cutsOn 27 rfl) (fun H locs Y => ?_)
      refine lv_icmp_ge (tgt := 74) X.1 X.2.1 (dk T_X8_cutsOn 28 rfl) rfl (fun c7 => ?_) (fun c7 => ?_)
      · replace h := ipos c7 h
        exact w_X8_cutsOn_j74 X t0 hk0 x1 x2 z.1 x4 z.2 q5 σ KB KX0 Y (lv_sub hl [1, 2, 3, 4, 5, 6, 0] rfl) h
      · replace h := ineg c7 h
        refine lv_iload X.1 X.2.1 (dk T_X8_cutsOn 29 rfl) (lv_at hl 0 rfl) ?_
        refine lv_aload_n X.1 X.2.1 (dk T_X8_cutsOn 30 rfl) rfl (lv_at hl 1 rfl) ?_
        refine lv_iload_n X.1 X.2.1 (dk T_X8_cutsOn 31 rfl) rfl (lv_at hl 2 rfl) ?_
        refine lv_iload X.1 X.2.1 (dk T_X8_cutsOn 32 rfl) (lv_at hl 6 rfl) ?_
        refine lv_iconst (v := 1) X.1 X.2.1 (dk T_X8_cutsOn 33 rfl) ic_1 ?_
        refine lv_iadd X.1 X.2.1 (dk T_X8_cutsOn 34 rfl) ?_
        refine lv_iload X.1 X.2.1 (dk T_X8_cutsOn 35 rfl) (lv_at hl 5 rfl) ?_
        obtain ⟨q13, hq13, h⟩ := bs h
        refine gvI (rest := [.int (q5)]) X Y (c_X8_onPlace t0 hk0 x1 (z.2 + 1) x4 σ hq13) cb_X8_104 hk0 hl.1 rfl rfl (Nat.le_of_ble_eq_true rfl) ⟨Nat.le_of_ble_eq_true rfl, Nat.le_of_ble_eq_true rfl⟩ (dk T_X8_cutsOn 36 rfl) (fun H locs Y => ?_)
        refine lv_iload_n X.1 X.2.1 (dk T_X8_cutsOn 37 rfl) rfl (lv_at hl 3 rfl) ?_
        obtain ⟨q14, hq14, h⟩ := bs h
        refine gsI (rest := []) X Y (c_X8_isCut q5 q13 x2 σ hq14) cb_X8_107 hl.1 rfl rfl (Nat.le_of_ble_eq_true rfl) ⟨Nat.le_of_ble_eq_true rfl, Nat.le_of_ble_eq_true rfl⟩ (dk T_X8_cutsOn 38 rfl) (fun H locs Y => ?_)
        refine lv_if_eq (tgt := 74) X.1 X.2.1 (dk T_X8_cutsOn 39 rfl) rfl (fun c15 => ?_) (fun c15 => ?_)
        · replace h := ipos c15 h
          exact w_X8_cutsOn_j74 X t0 hk0 x1 x2 z.1 x4 z.2 q5 σ KB KX0 Y (lv_sub hl [1, 2, 3, 4, 5, 6, 0] rfl) h
        · replace h := ineg c15 h
          refine lv_iinc (v := z.1 + 1) (lv' := [(3, .int (z.1 + 1)), (6, .int (q5)), (0, .ref (g.2.2 (t0))), (1, .int (x1)), (2, .int (x2)), (4, .int (x4)), (5, .int (z.2))]) X.1 X.2.1 (dk T_X8_cutsOn 40 rfl) hl (k := 4) rfl (icx ic_1) (Nat.le_of_ble_eq_true rfl) rfl (fun ls hl => ?_)
          exact w_X8_cutsOn_j74 X t0 hk0 x1 x2 (z.1 + 1) x4 z.2 q5 σ KB KX0 Y (lv_sub hl [2, 3, 4, 0, 5, 6, 1] rfl) h
def f_X8_cutsOn_l5 (t0 : Nat) (x1 : Int32) (x2 : Int32) (σ : St) (z : Int32 × Int32) : Option ((Int32 × Int32) ⊕ (Int32)) :=
  (f_X8_rowsOf t0 x1 σ).bind fun q1 => if q1 ≤ z.2 then some (.inr z.1) else (lp (f_X8_cutsOn_l18 t0 x1 x2 z.2 σ) FU (z.1, 0)).bind fun q16 => some (.inl (q16, z.2 + 1))
set_option maxHeartbeats 4000000 in
set_option maxRecDepth 100000 in
theorem w_X8_cutsOn_l5 (X : Cx g RX8 cX8_cutsOn 7 (some .int) p s m args meth c) (t0 : Nat) (hk0 : kd t0 = 9) (x1 : Int32) (x2 : Int32) (σ : St) {r : Int32} (KX0 : ∀ (v : Int32), r = v → ∀ (H : Heap) (locs : List Loc) (ls : Array Slot), Wd g s σ H locs → lv_has ls 7 [(3, .int (v))] → W p l e (rmm 2 48) s m args below meth c H locs 0 0 Q (F0 m 121 ls [])) : ∀ (n : Nat) (z : Int32 × Int32) {H : Heap} {locs : List Loc} {ls : Array Slot}, Wd g s σ H locs → lv_has ls 7 [(0, .ref (g.2.2 (t0))), (1, .int (x1)), (2, .int (x2)), (3, .int (z.1)), (4, .int (z.2))] → lp (f_X8_cutsOn_l5 t0 x1 x2 σ) n z = some r → W p l e (rmm 2 48) s m args below meth c H locs 0 0 Q (F0 m 5 ls []) := by
  intro n
  induction n with
  | zero => intro z H locs ls Y hl h; cases h
  | succ n ih =>
    intro z H locs ls Y hl h
    obtain ⟨w, h, hw⟩ := lps h
    have KB : ∀ (v0_ : Int32) (v1_ : Int32), w = .inl (v0_, v1_) → ∀ (H : Heap) (locs : List Loc) (ls : Array Slot), Wd g s σ H locs → lv_has ls 7 [(0, .ref (g.2.2 (t0))), (1, .int (x1)), (2, .int (x2)), (3, .int (v0_)), (4, .int (v1_))] → W p l e (rmm 2 48) s m args below meth c H locs 0 0 Q (F0 m 5 ls []) := fun v0_ v1_ e H locs ls Y hl => ih (v0_, v1_) Y hl (lpl hw e)
    have KX0 := fun (v : Int32) (e : w = .inr v) => KX0 v (lpr hw e)
    unfold f_X8_cutsOn_l5 at h
    refine lv_iload X.1 X.2.1 (dk T_X8_cutsOn 4 rfl) (lv_at hl 4 rfl) ?_
    refine lv_aload_n X.1 X.2.1 (dk T_X8_cutsOn 5 rfl) rfl (lv_at hl 0 rfl) ?_
    refine lv_iload_n X.1 X.2.1 (dk T_X8_cutsOn 6 rfl) rfl (lv_at hl 1 rfl) ?_
    obtain ⟨q1, hq1, h⟩ := bs h
    refine gvI (rest := [.int (z.2)]) X Y (c_X8_rowsOf t0 hk0 x1 σ hq1) cb_X8_38 hk0 hl.1 rfl rfl (Nat.le_of_ble_eq_true rfl) ⟨Nat.le_of_ble_eq_true rfl, Nat.le_of_ble_eq_true rfl⟩ (dk T_X8_cutsOn 7 rfl) (fun H locs Y => ?_)
    refine lv_icmp_ge (tgt := 121) X.1 X.2.1 (dk T_X8_cutsOn 8 rfl) rfl (fun c2 => ?_) (fun c2 => ?_)
    · replace h := ipos c2 h
      exact KX0 z.1 (Option.some.inj h).symm _ _ _ Y (lv_sub hl [3] rfl)
    · replace h := ineg c2 h
      refine lv_iconst (v := 0) X.1 X.2.1 (dk T_X8_cutsOn 9 rfl) ic_0 ?_
      refine lv_istore (lv' := [(5, .int (0)), (0, .ref (g.2.2 (t0))), (1, .int (x1)), (2, .int (x2)), (3, .int (z.1)), (4, .int (z.2))]) X.1 X.2.1 (dk T_X8_cutsOn 10 rfl) hl (Nat.le_of_ble_eq_true rfl) rfl (fun ls hl => ?_)
      obtain ⟨q16, hq16, h⟩ := bs h
      refine w_X8_cutsOn_l18 X t0 hk0 x1 x2 z.2 σ (fun v e H locs ls Y hl => ?_) FU (z.1, 0) Y (lv_sub hl [1, 2, 3, 4, 5, 0] rfl) hq16
      · obtain rfl := e
        refine lv_iinc (v := z.2 + 1) (lv' := [(4, .int (z.2 + 1)), (0, .ref (g.2.2 (t0))), (1, .int (x1)), (2, .int (x2)), (3, .int (q16))]) X.1 X.2.1 (dk T_X8_cutsOn 62 rfl) hl (k := 4) rfl (icx ic_1) (Nat.le_of_ble_eq_true rfl) rfl (fun ls hl => ?_)
        refine lv_goto (tgt := 5) X.1 X.2.1 (dk T_X8_cutsOn 63 rfl) rfl ?_
        exact KB q16 (z.2 + 1) (Option.some.inj h).symm _ _ _ Y (lv_sub hl [1, 2, 3, 4, 0] rfl)
def f_X8_cutsOn_0 (t0 : Nat) (x1 : Int32) (x2 : Int32) (σ : St) : Option (Int32) :=
  (lp (f_X8_cutsOn_l5 t0 x1 x2 σ) FU (0, 0)).bind fun q17 => some q17
set_option maxHeartbeats 4000000 in
set_option maxRecDepth 100000 in
theorem w_X8_cutsOn_0 (X : Cx g RX8 cX8_cutsOn 7 (some .int) p s m args meth c) (t0 : Nat) (hk0 : kd t0 = 9) (x1 : Int32) (x2 : Int32) (σ : St) {w : Int32} (KR : ∀ (H : Heap) (locs : List Loc) (ls : Array Slot) (pc : Nat), Wd g s σ H locs → decode cX8_cutsOn pc = .ok (.ireturn, 1) → W p l e (rmm 2 48) s m args below meth c H locs 0 0 Q (F0 m pc ls [.int (w)])) {H : Heap} {locs : List Loc} {ls : Array Slot} (Y : Wd g s σ H locs) (hl : lv_has ls 7 [(0, .ref (g.2.2 (t0))), (1, .int (x1)), (2, .int (x2))]) (h : f_X8_cutsOn_0 t0 x1 x2 σ = some w) : W p l e (rmm 2 48) s m args below meth c H locs 0 0 Q (F0 m 0 ls []) := by
  unfold f_X8_cutsOn_0 at h
  refine lv_iconst (v := 0) X.1 X.2.1 (dk T_X8_cutsOn 0 rfl) ic_0 ?_
  refine lv_istore_n (lv' := [(3, .int (0)), (0, .ref (g.2.2 (t0))), (1, .int (x1)), (2, .int (x2))]) X.1 X.2.1 (dk T_X8_cutsOn 1 rfl) rfl hl (Nat.le_of_ble_eq_true rfl) rfl (fun ls hl => ?_)
  refine lv_iconst (v := 0) X.1 X.2.1 (dk T_X8_cutsOn 2 rfl) ic_0 ?_
  refine lv_istore (lv' := [(4, .int (0)), (3, .int (0)), (0, .ref (g.2.2 (t0))), (1, .int (x1)), (2, .int (x2))]) X.1 X.2.1 (dk T_X8_cutsOn 3 rfl) hl (Nat.le_of_ble_eq_true rfl) rfl (fun ls hl => ?_)
  obtain ⟨q17, hq17, h⟩ := bs h
  refine w_X8_cutsOn_l5 X t0 hk0 x1 x2 σ (fun v e H locs ls Y hl => ?_) FU (0, 0) Y (lv_sub hl [2, 3, 4, 1, 0] rfl) hq17
  · obtain rfl := e
    refine lv_iload_n X.1 X.2.1 (dk T_X8_cutsOn 64 rfl) rfl (lv_at hl 0 rfl) ?_
    obtain rfl := Option.some.inj h
    exact KR _ _ _ _ Y (dk T_X8_cutsOn 65 rfl)
def f_X8_cutsOn (t0 : Nat) (x1 : Int32) (x2 : Int32) (σ : St) : Option (Int32) := f_X8_cutsOn_0 t0 x1 x2 σ
set_option maxHeartbeats 4000000 in
set_option maxRecDepth 100000 in
theorem c_X8_cutsOn {l : Launch} {g : Geo} (t0 : Nat) (hk0 : kd t0 = 9) (x1 : Int32) (x2 : Int32) (σ : St) {w : Int32} (h : f_X8_cutsOn t0 x1 x2 σ = some w) : CtI l yX8_cutsOn cX8_cutsOn 7 (some .int) (rmm 2 48) g [.ref (g.2.2 (t0)), .int (x1), .int (x2)] σ w σ := enI .int (by decide) rfl rfl (Nat.le_of_ble_eq_true rfl) (fun p e s m args below meth c Q X Y ls hl KR => w_X8_cutsOn_0 X t0 hk0 x1 x2 σ KR Y hl h)
def I_X8_sizeOf : List (Nat × Instr × Nat) := [(0, .aload_n 0, 1), (1, .getfield 20, 3), (4, .iload_n 1, 1), (5, .iconst 2, 1), (6, .invokevirtual 30, 3), (9, .invokestatic 67, 3), (12, .ireturn, 1)]
set_option maxRecDepth 100000 in
theorem T_X8_sizeOf : ∀ q ∈ I_X8_sizeOf, decode cX8_sizeOf q.1 = .ok (q.2.1, q.2.2) := by decide +kernel
def f_X8_sizeOf_0 (t0 : Nat) (x1 : Int32) (σ : St) : Option (Int32) :=
  (f_X9_get (t0 + 3) x1 2 σ).bind fun q1 => (f_J6_bitCount_0f7a4 q1).bind fun q2 => some q2
set_option maxHeartbeats 4000000 in
set_option maxRecDepth 100000 in
theorem w_X8_sizeOf_0 (X : Cx g RX8 cX8_sizeOf 2 (some .int) p s m args meth c) (t0 : Nat) (hk0 : kd t0 = 9) (x1 : Int32) (σ : St) {w : Int32} (KR : ∀ (H : Heap) (locs : List Loc) (ls : Array Slot) (pc : Nat), Wd g s σ H locs → decode cX8_sizeOf pc = .ok (.ireturn, 1) → W p l e (rmm 1 23) s m args below meth c H locs 0 0 Q (F0 m pc ls [.int (w)])) {H : Heap} {locs : List Loc} {ls : Array Slot} (Y : Wd g s σ H locs) (hl : lv_has ls 2 [(0, .ref (g.2.2 (t0))), (1, .int (x1))]) (h : f_X8_sizeOf_0 t0 x1 σ = some w) : W p l e (rmm 1 23) s m args below meth c H locs 0 0 Q (F0 m 0 ls []) := by
  unfold f_X8_sizeOf_0 at h
  refine lv_aload_n X.1 X.2.1 (dk T_X8_sizeOf 0 rfl) rfl (lv_at hl 0 rfl) ?_
  refine gg X Y fl_X8_20 hk0 rfl (dk T_X8_sizeOf 1 rfl) ?_
  refine lv_iload_n X.1 X.2.1 (dk T_X8_sizeOf 2 rfl) rfl (lv_at hl 1 rfl) ?_
  refine lv_iconst (v := 2) X.1 X.2.1 (dk T_X8_sizeOf 3 rfl) ic_2 ?_
  obtain ⟨q1, hq1, h⟩ := bs h
  refine gvI (rest := []) X Y (c_X9_get (t0 + 3) (ks3 hk0) x1 2 σ hq1) cb_X8_30 (ks3 hk0) hl.1 rfl rfl (Nat.le_of_ble_eq_true rfl) ⟨Nat.le_of_ble_eq_true rfl, Nat.le_of_ble_eq_true rfl⟩ (dk T_X8_sizeOf 4 rfl) (fun H locs Y => ?_)
  obtain ⟨q2, hq2, h⟩ := bs h
  refine gsI (rest := []) X Y (c_J6_bitCount_0f7a4 q1 σ hq2) cb_X8_67 hl.1 rfl rfl (Nat.le_of_ble_eq_true rfl) ⟨Nat.le_of_ble_eq_true rfl, Nat.le_of_ble_eq_true rfl⟩ (dk T_X8_sizeOf 5 rfl) (fun H locs Y => ?_)
  obtain rfl := Option.some.inj h
  exact KR _ _ _ _ Y (dk T_X8_sizeOf 6 rfl)
def f_X8_sizeOf (t0 : Nat) (x1 : Int32) (σ : St) : Option (Int32) := f_X8_sizeOf_0 t0 x1 σ
set_option maxHeartbeats 4000000 in
set_option maxRecDepth 100000 in
theorem c_X8_sizeOf {l : Launch} {g : Geo} (t0 : Nat) (hk0 : kd t0 = 9) (x1 : Int32) (σ : St) {w : Int32} (h : f_X8_sizeOf t0 x1 σ = some w) : CtI l yX8_sizeOf cX8_sizeOf 2 (some .int) (rmm 1 23) g [.ref (g.2.2 (t0)), .int (x1)] σ w σ := enI .int (by decide) rfl rfl (Nat.le_of_ble_eq_true rfl) (fun p e s m args below meth c Q X Y ls hl KR => w_X8_sizeOf_0 X t0 hk0 x1 σ KR Y hl h)
def I_X8_columnsAfter : List (Nat × Instr × Nat) := [(0, .aload_n 0, 1), (1, .getfield 20, 3), (4, .iload_n 1, 1), (5, .iload_n 2, 1), (6, .iconst 2, 1), (7, .irem, 1), (8, .ifCond .ne 7, 3), (11, .iconst 0, 1), (12, .goto 4, 3), (15, .iconst 1, 1), (16, .invokevirtual 30, 3), (19, .ireturn, 1)]
set_option maxRecDepth 100000 in
theorem T_X8_columnsAfter : ∀ q ∈ I_X8_columnsAfter, decode cX8_columnsAfter q.1 = .ok (q.2.1, q.2.2) := by decide +kernel
def f_X8_columnsAfter_j16 (t0 : Nat) (s0 : Int32) (s1 : Int32) (σ : St) : Option (Int32) :=
  (f_X9_get (t0 + 3) s1 s0 σ).bind fun q3 => some q3
set_option maxHeartbeats 4000000 in
set_option maxRecDepth 100000 in
theorem w_X8_columnsAfter_j16 (X : Cx g RX8 cX8_columnsAfter 3 (some .int) p s m args meth c) (t0 : Nat) (hk0 : kd t0 = 9) (s0 : Int32) (s1 : Int32) (σ : St) {w : Int32} (KR : ∀ (H : Heap) (locs : List Loc) (ls : Array Slot) (pc : Nat), Wd g s σ H locs → decode cX8_columnsAfter pc = .ok (.ireturn, 1) → W p l e (rmm 1 23) s m args below meth c H locs 0 0 Q (F0 m pc ls [.int (w)])) {H : Heap} {locs : List Loc} {ls : Array Slot} (Y : Wd g s σ H locs) (hl : lv_has ls 3 []) (h : f_X8_columnsAfter_j16 t0 s0 s1 σ = some w) : W p l e (rmm 1 23) s m args below meth c H locs 0 0 Q (F0 m 16 ls [.int (s0), .int (s1), .ref (g.2.2 ((t0 + 3)))]) := by
  unfold f_X8_columnsAfter_j16 at h
  obtain ⟨q3, hq3, h⟩ := bs h
  refine gvI (rest := []) X Y (c_X9_get (t0 + 3) (ks3 hk0) s1 s0 σ hq3) cb_X8_30 (ks3 hk0) hl.1 rfl rfl (Nat.le_of_ble_eq_true rfl) ⟨Nat.le_of_ble_eq_true rfl, Nat.le_of_ble_eq_true rfl⟩ (dk T_X8_columnsAfter 10 rfl) (fun H locs Y => ?_)
  obtain rfl := Option.some.inj h
  exact KR _ _ _ _ Y (dk T_X8_columnsAfter 11 rfl)
def f_X8_columnsAfter_0 (t0 : Nat) (x1 : Int32) (x2 : Int32) (σ : St) : Option (Int32) :=
  chk (nz 2) (if (x2 - x2 / 2 * 2) = 0 then f_X8_columnsAfter_j16 t0 0 x1 σ else f_X8_columnsAfter_j16 t0 1 x1 σ)
set_option maxHeartbeats 4000000 in
set_option maxRecDepth 100000 in
theorem w_X8_columnsAfter_0 (X : Cx g RX8 cX8_columnsAfter 3 (some .int) p s m args meth c) (t0 : Nat) (hk0 : kd t0 = 9) (x1 : Int32) (x2 : Int32) (σ : St) {w : Int32} (KR : ∀ (H : Heap) (locs : List Loc) (ls : Array Slot) (pc : Nat), Wd g s σ H locs → decode cX8_columnsAfter pc = .ok (.ireturn, 1) → W p l e (rmm 1 23) s m args below meth c H locs 0 0 Q (F0 m pc ls [.int (w)])) {H : Heap} {locs : List Loc} {ls : Array Slot} (Y : Wd g s σ H locs) (hl : lv_has ls 3 [(0, .ref (g.2.2 (t0))), (1, .int (x1)), (2, .int (x2))]) (h : f_X8_columnsAfter_0 t0 x1 x2 σ = some w) : W p l e (rmm 1 23) s m args below meth c H locs 0 0 Q (F0 m 0 ls []) := by
  unfold f_X8_columnsAfter_0 at h
  refine lv_aload_n X.1 X.2.1 (dk T_X8_columnsAfter 0 rfl) rfl (lv_at hl 0 rfl) ?_
  refine gg X Y fl_X8_20 hk0 rfl (dk T_X8_columnsAfter 1 rfl) ?_
  refine lv_iload_n X.1 X.2.1 (dk T_X8_columnsAfter 2 rfl) rfl (lv_at hl 1 rfl) ?_
  refine lv_iload_n X.1 X.2.1 (dk T_X8_columnsAfter 3 rfl) rfl (lv_at hl 2 rfl) ?_
  refine lv_iconst (v := 2) X.1 X.2.1 (dk T_X8_columnsAfter 4 rfl) ic_2 ?_
  obtain ⟨g1, h⟩ := gd h
  refine lv_irem X.1 X.2.1 (dk T_X8_columnsAfter 5 rfl) (nzp g1) ?_
  refine lv_if_ne (tgt := 15) X.1 X.2.1 (dk T_X8_columnsAfter 6 rfl) rfl (fun c2 => ?_) (fun c2 => ?_)
  · replace h := ineg c2 h
    refine lv_iconst (v := 1) X.1 X.2.1 (dk T_X8_columnsAfter 9 rfl) ic_1 ?_
    exact w_X8_columnsAfter_j16 X t0 hk0 1 x1 σ KR Y (lv_sub hl [] rfl) h
  · replace h := ipos c2 h
    refine lv_iconst (v := 0) X.1 X.2.1 (dk T_X8_columnsAfter 7 rfl) ic_0 ?_
    refine lv_goto (tgt := 16) X.1 X.2.1 (dk T_X8_columnsAfter 8 rfl) rfl ?_
    exact w_X8_columnsAfter_j16 X t0 hk0 0 x1 σ KR Y (lv_sub hl [] rfl) h
def f_X8_columnsAfter (t0 : Nat) (x1 : Int32) (x2 : Int32) (σ : St) : Option (Int32) := f_X8_columnsAfter_0 t0 x1 x2 σ
set_option maxHeartbeats 4000000 in
set_option maxRecDepth 100000 in
theorem c_X8_columnsAfter {l : Launch} {g : Geo} (t0 : Nat) (hk0 : kd t0 = 9) (x1 : Int32) (x2 : Int32) (σ : St) {w : Int32} (h : f_X8_columnsAfter t0 x1 x2 σ = some w) : CtI l yX8_columnsAfter cX8_columnsAfter 3 (some .int) (rmm 1 23) g [.ref (g.2.2 (t0)), .int (x1), .int (x2)] σ w σ := enI .int (by decide) rfl rfl (Nat.le_of_ble_eq_true rfl) (fun p e s m args below meth c Q X Y ls hl KR => w_X8_columnsAfter_0 X t0 hk0 x1 x2 σ KR Y hl h)
def I_X8_coveredAfter : List (Nat × Instr × Nat) := [(0, .aload_n 0, 1), (1, .getfield 20, 3), (4, .iload_n 1, 1), (5, .iconst 5, 1), (6, .iload_n 2, 1), (7, .iadd, 1), (8, .invokevirtual 30, 3), (11, .ireturn, 1)]
set_option maxRecDepth 100000 in
theorem T_X8_coveredAfter : ∀ q ∈ I_X8_coveredAfter, decode cX8_coveredAfter q.1 = .ok (q.2.1, q.2.2) := by decide +kernel
def f_X8_coveredAfter_0 (t0 : Nat) (x1 : Int32) (x2 : Int32) (σ : St) : Option (Int32) :=
  (f_X9_get (t0 + 3) x1 (5 + x2) σ).bind fun q1 => some q1
set_option maxHeartbeats 4000000 in
set_option maxRecDepth 100000 in
theorem w_X8_coveredAfter_0 (X : Cx g RX8 cX8_coveredAfter 3 (some .int) p s m args meth c) (t0 : Nat) (hk0 : kd t0 = 9) (x1 : Int32) (x2 : Int32) (σ : St) {w : Int32} (KR : ∀ (H : Heap) (locs : List Loc) (ls : Array Slot) (pc : Nat), Wd g s σ H locs → decode cX8_coveredAfter pc = .ok (.ireturn, 1) → W p l e (rmm 1 23) s m args below meth c H locs 0 0 Q (F0 m pc ls [.int (w)])) {H : Heap} {locs : List Loc} {ls : Array Slot} (Y : Wd g s σ H locs) (hl : lv_has ls 3 [(0, .ref (g.2.2 (t0))), (1, .int (x1)), (2, .int (x2))]) (h : f_X8_coveredAfter_0 t0 x1 x2 σ = some w) : W p l e (rmm 1 23) s m args below meth c H locs 0 0 Q (F0 m 0 ls []) := by
  unfold f_X8_coveredAfter_0 at h
  refine lv_aload_n X.1 X.2.1 (dk T_X8_coveredAfter 0 rfl) rfl (lv_at hl 0 rfl) ?_
  refine gg X Y fl_X8_20 hk0 rfl (dk T_X8_coveredAfter 1 rfl) ?_
  refine lv_iload_n X.1 X.2.1 (dk T_X8_coveredAfter 2 rfl) rfl (lv_at hl 1 rfl) ?_
  refine lv_iconst (v := 5) X.1 X.2.1 (dk T_X8_coveredAfter 3 rfl) ic_5 ?_
  refine lv_iload_n X.1 X.2.1 (dk T_X8_coveredAfter 4 rfl) rfl (lv_at hl 2 rfl) ?_
  refine lv_iadd X.1 X.2.1 (dk T_X8_coveredAfter 5 rfl) ?_
  obtain ⟨q1, hq1, h⟩ := bs h
  refine gvI (rest := []) X Y (c_X9_get (t0 + 3) (ks3 hk0) x1 (5 + x2) σ hq1) cb_X8_30 (ks3 hk0) hl.1 rfl rfl (Nat.le_of_ble_eq_true rfl) ⟨Nat.le_of_ble_eq_true rfl, Nat.le_of_ble_eq_true rfl⟩ (dk T_X8_coveredAfter 6 rfl) (fun H locs Y => ?_)
  obtain rfl := Option.some.inj h
  exact KR _ _ _ _ Y (dk T_X8_coveredAfter 7 rfl)
def f_X8_coveredAfter (t0 : Nat) (x1 : Int32) (x2 : Int32) (σ : St) : Option (Int32) := f_X8_coveredAfter_0 t0 x1 x2 σ
set_option maxHeartbeats 4000000 in
set_option maxRecDepth 100000 in
theorem c_X8_coveredAfter {l : Launch} {g : Geo} (t0 : Nat) (hk0 : kd t0 = 9) (x1 : Int32) (x2 : Int32) (σ : St) {w : Int32} (h : f_X8_coveredAfter t0 x1 x2 σ = some w) : CtI l yX8_coveredAfter cX8_coveredAfter 3 (some .int) (rmm 1 23) g [.ref (g.2.2 (t0)), .int (x1), .int (x2)] σ w σ := enI .int (by decide) rfl rfl (Nat.le_of_ble_eq_true rfl) (fun p e s m args below meth c Q X Y ls hl KR => w_X8_coveredAfter_0 X t0 hk0 x1 x2 σ KR Y hl h)
def I_X8_isLikeAnEarlier : List (Nat × Instr × Nat) := [(0, .iconst 0, 1), (1, .istore_n 3, 1), (2, .iload_n 3, 1), (3, .iload_n 2, 1), (4, .if_icmp .ge 41, 3), (7, .aload_n 0, 1), (8, .iload_n 1, 1), (9, .iload_n 3, 1), (10, .invokevirtual 76, 3), (13, .aload_n 0, 1), (14, .iload_n 1, 1), (15, .iload_n 2, 1), (16, .invokevirtual 76, 3), (19, .if_icmp .ne 20, 3), (22, .aload_n 0, 1), (23, .iload_n 1, 1), (24, .iload_n 3, 1), (25, .invokevirtual 79, 3), (28, .aload_n 0, 1), (29, .iload_n 1, 1), (30, .iload_n 2, 1), (31, .invokevirtual 79, 3), (34, .if_icmp .ne 5, 3), (37, .iconst 1, 1), (38, .ireturn, 1), (39, .iinc 3 1, 3), (42, .goto (-40), 3), (45, .iconst 0, 1), (46, .ireturn, 1)]
set_option maxRecDepth 100000 in
theorem T_X8_isLikeAnEarlier : ∀ q ∈ I_X8_isLikeAnEarlier, decode cX8_isLikeAnEarlier q.1 = .ok (q.2.1, q.2.2) := by decide +kernel
def f_X8_isLikeAnEarlier_j39 (t0 : Nat) (x1 : Int32) (x2 : Int32) (x3 : Int32) (σ : St) : Option ((Int32) ⊕ ((Unit) ⊕ (Unit))) :=
  some (.inl (x3 + 1))
set_option maxHeartbeats 4000000 in
set_option maxRecDepth 100000 in
theorem w_X8_isLikeAnEarlier_j39 (X : Cx g RX8 cX8_isLikeAnEarlier 4 (some .boolean) p s m args meth c) (t0 : Nat) (hk0 : kd t0 = 9) (x1 : Int32) (x2 : Int32) (x3 : Int32) (σ : St) {w : (Int32) ⊕ ((Unit) ⊕ (Unit))} (KB : ∀ (v : Int32), w = .inl v → ∀ (H : Heap) (locs : List Loc) (ls : Array Slot), Wd g s σ H locs → lv_has ls 4 [(0, .ref (g.2.2 (t0))), (1, .int (x1)), (2, .int (x2)), (3, .int (v))] → W p l e (rmm 2 45) s m args below meth c H locs 0 0 Q (F0 m 2 ls [])) (KX0 : ∀ (v : Unit), w = .inr (.inl v) → ∀ (H : Heap) (locs : List Loc) (ls : Array Slot), Wd g s σ H locs → lv_has ls 4 [] → W p l e (rmm 2 45) s m args below meth c H locs 0 0 Q (F0 m 45 ls [])) (KX1 : ∀ (v : Unit), w = .inr (.inr v) → ∀ (H : Heap) (locs : List Loc) (ls : Array Slot), Wd g s σ H locs → lv_has ls 4 [] → W p l e (rmm 2 45) s m args below meth c H locs 0 0 Q (F0 m 37 ls [])) {H : Heap} {locs : List Loc} {ls : Array Slot} (Y : Wd g s σ H locs) (hl : lv_has ls 4 [(0, .ref (g.2.2 (t0))), (1, .int (x1)), (2, .int (x2)), (3, .int (x3))]) (h : f_X8_isLikeAnEarlier_j39 t0 x1 x2 x3 σ = some w) : W p l e (rmm 2 45) s m args below meth c H locs 0 0 Q (F0 m 39 ls []) := by
  unfold f_X8_isLikeAnEarlier_j39 at h
  refine lv_iinc (v := x3 + 1) (lv' := [(3, .int (x3 + 1)), (0, .ref (g.2.2 (t0))), (1, .int (x1)), (2, .int (x2))]) X.1 X.2.1 (dk T_X8_isLikeAnEarlier 25 rfl) hl (k := 3) rfl (icx ic_1) (Nat.le_of_ble_eq_true rfl) rfl (fun ls hl => ?_)
  refine lv_goto (tgt := 2) X.1 X.2.1 (dk T_X8_isLikeAnEarlier 26 rfl) rfl ?_
  exact KB (x3 + 1) (Option.some.inj h).symm _ _ _ Y (lv_sub hl [1, 2, 3, 0] rfl)
def f_X8_isLikeAnEarlier_l2 (t0 : Nat) (x1 : Int32) (x2 : Int32) (σ : St) (z : Int32) : Option ((Int32) ⊕ ((Unit) ⊕ (Unit))) :=
  if x2 ≤ z then some (.inr (.inl ())) else (f_X8_columnsAfter t0 x1 z σ).bind fun q2 => (f_X8_columnsAfter t0 x1 x2 σ).bind fun q3 => if q2 = q3 then (f_X8_coveredAfter t0 x1 z σ).bind fun q5 => (f_X8_coveredAfter t0 x1 x2 σ).bind fun q6 => if q5 = q6 then some (.inr (.inr ())) else f_X8_isLikeAnEarlier_j39 t0 x1 x2 z σ else f_X8_isLikeAnEarlier_j39 t0 x1 x2 z σ
set_option maxHeartbeats 4000000 in
set_option maxRecDepth 100000 in
theorem w_X8_isLikeAnEarlier_l2 (X : Cx g RX8 cX8_isLikeAnEarlier 4 (some .boolean) p s m args meth c) (t0 : Nat) (hk0 : kd t0 = 9) (x1 : Int32) (x2 : Int32) (σ : St) {r : (Unit) ⊕ (Unit)} (KX0 : ∀ (v : Unit), r = (.inl v) → ∀ (H : Heap) (locs : List Loc) (ls : Array Slot), Wd g s σ H locs → lv_has ls 4 [] → W p l e (rmm 2 45) s m args below meth c H locs 0 0 Q (F0 m 45 ls [])) (KX1 : ∀ (v : Unit), r = (.inr v) → ∀ (H : Heap) (locs : List Loc) (ls : Array Slot), Wd g s σ H locs → lv_has ls 4 [] → W p l e (rmm 2 45) s m args below meth c H locs 0 0 Q (F0 m 37 ls [])) : ∀ (n : Nat) (z : Int32) {H : Heap} {locs : List Loc} {ls : Array Slot}, Wd g s σ H locs → lv_has ls 4 [(0, .ref (g.2.2 (t0))), (1, .int (x1)), (2, .int (x2)), (3, .int (z))] → lp (f_X8_isLikeAnEarlier_l2 t0 x1 x2 σ) n z = some r → W p l e (rmm 2 45) s m args below meth c H locs 0 0 Q (F0 m 2 ls []) := by
  intro n
  induction n with
  | zero => intro z H locs ls Y hl h; cases h
  | succ n ih =>
    intro z H locs ls Y hl h
    obtain ⟨w, h, hw⟩ := lps h
    have KB : ∀ (v : Int32), w = .inl v → ∀ (H : Heap) (locs : List Loc) (ls : Array Slot), Wd g s σ H locs → lv_has ls 4 [(0, .ref (g.2.2 (t0))), (1, .int (x1)), (2, .int (x2)), (3, .int (v))] → W p l e (rmm 2 45) s m args below meth c H locs 0 0 Q (F0 m 2 ls []) := fun v e H locs ls Y hl => ih v Y hl (lpl hw e)
    have KX0 := fun (v : Unit) (e : w = .inr (.inl v)) => KX0 v (lpr hw e)
    have KX1 := fun (v : Unit) (e : w = .inr (.inr v)) => KX1 v (lpr hw e)
    unfold f_X8_isLikeAnEarlier_l2 at h
    refine lv_iload_n X.1 X.2.1 (dk T_X8_isLikeAnEarlier 2 rfl) rfl (lv_at hl 3 rfl) ?_
    refine lv_iload_n X.1 X.2.1 (dk T_X8_isLikeAnEarlier 3 rfl) rfl (lv_at hl 2 rfl) ?_
    refine lv_icmp_ge (tgt := 45) X.1 X.2.1 (dk T_X8_isLikeAnEarlier 4 rfl) rfl (fun c1 => ?_) (fun c1 => ?_)
    · replace h := ipos c1 h
      exact KX0 () (Option.some.inj h).symm _ _ _ Y (lv_sub hl [] rfl)
    · replace h := ineg c1 h
      refine lv_aload_n X.1 X.2.1 (dk T_X8_isLikeAnEarlier 5 rfl) rfl (lv_at hl 0 rfl) ?_
      refine lv_iload_n X.1 X.2.1 (dk T_X8_isLikeAnEarlier 6 rfl) rfl (lv_at hl 1 rfl) ?_
      refine lv_iload_n X.1 X.2.1 (dk T_X8_isLikeAnEarlier 7 rfl) rfl (lv_at hl 3 rfl) ?_
      obtain ⟨q2, hq2, h⟩ := bs h
      refine gvI (rest := []) X Y (c_X8_columnsAfter t0 hk0 x1 z σ hq2) cb_X8_76 hk0 hl.1 rfl rfl (Nat.le_of_ble_eq_true rfl) ⟨Nat.le_of_ble_eq_true rfl, Nat.le_of_ble_eq_true rfl⟩ (dk T_X8_isLikeAnEarlier 8 rfl) (fun H locs Y => ?_)
      refine lv_aload_n X.1 X.2.1 (dk T_X8_isLikeAnEarlier 9 rfl) rfl (lv_at hl 0 rfl) ?_
      refine lv_iload_n X.1 X.2.1 (dk T_X8_isLikeAnEarlier 10 rfl) rfl (lv_at hl 1 rfl) ?_
      refine lv_iload_n X.1 X.2.1 (dk T_X8_isLikeAnEarlier 11 rfl) rfl (lv_at hl 2 rfl) ?_
      obtain ⟨q3, hq3, h⟩ := bs h
      refine gvI (rest := [.int (q2)]) X Y (c_X8_columnsAfter t0 hk0 x1 x2 σ hq3) cb_X8_76 hk0 hl.1 rfl rfl (Nat.le_of_ble_eq_true rfl) ⟨Nat.le_of_ble_eq_true rfl, Nat.le_of_ble_eq_true rfl⟩ (dk T_X8_isLikeAnEarlier 12 rfl) (fun H locs Y => ?_)
      refine lv_icmp_ne (tgt := 39) X.1 X.2.1 (dk T_X8_isLikeAnEarlier 13 rfl) rfl (fun c4 => ?_) (fun c4 => ?_)
      · replace h := ineg c4 h
        exact w_X8_isLikeAnEarlier_j39 X t0 hk0 x1 x2 z σ KB KX0 KX1 Y (lv_sub hl [0, 1, 2, 3] rfl) h
      · replace h := ipos c4 h
        refine lv_aload_n X.1 X.2.1 (dk T_X8_isLikeAnEarlier 14 rfl) rfl (lv_at hl 0 rfl) ?_
        refine lv_iload_n X.1 X.2.1 (dk T_X8_isLikeAnEarlier 15 rfl) rfl (lv_at hl 1 rfl) ?_
        refine lv_iload_n X.1 X.2.1 (dk T_X8_isLikeAnEarlier 16 rfl) rfl (lv_at hl 3 rfl) ?_
        obtain ⟨q5, hq5, h⟩ := bs h
        refine gvI (rest := []) X Y (c_X8_coveredAfter t0 hk0 x1 z σ hq5) cb_X8_79 hk0 hl.1 rfl rfl (Nat.le_of_ble_eq_true rfl) ⟨Nat.le_of_ble_eq_true rfl, Nat.le_of_ble_eq_true rfl⟩ (dk T_X8_isLikeAnEarlier 17 rfl) (fun H locs Y => ?_)
        refine lv_aload_n X.1 X.2.1 (dk T_X8_isLikeAnEarlier 18 rfl) rfl (lv_at hl 0 rfl) ?_
        refine lv_iload_n X.1 X.2.1 (dk T_X8_isLikeAnEarlier 19 rfl) rfl (lv_at hl 1 rfl) ?_
        refine lv_iload_n X.1 X.2.1 (dk T_X8_isLikeAnEarlier 20 rfl) rfl (lv_at hl 2 rfl) ?_
        obtain ⟨q6, hq6, h⟩ := bs h
        refine gvI (rest := [.int (q5)]) X Y (c_X8_coveredAfter t0 hk0 x1 x2 σ hq6) cb_X8_79 hk0 hl.1 rfl rfl (Nat.le_of_ble_eq_true rfl) ⟨Nat.le_of_ble_eq_true rfl, Nat.le_of_ble_eq_true rfl⟩ (dk T_X8_isLikeAnEarlier 21 rfl) (fun H locs Y => ?_)
        refine lv_icmp_ne (tgt := 39) X.1 X.2.1 (dk T_X8_isLikeAnEarlier 22 rfl) rfl (fun c7 => ?_) (fun c7 => ?_)
        · replace h := ineg c7 h
          exact w_X8_isLikeAnEarlier_j39 X t0 hk0 x1 x2 z σ KB KX0 KX1 Y (lv_sub hl [0, 1, 2, 3] rfl) h
        · replace h := ipos c7 h
          exact KX1 () (Option.some.inj h).symm _ _ _ Y (lv_sub hl [] rfl)
def f_X8_isLikeAnEarlier_0 (t0 : Nat) (x1 : Int32) (x2 : Int32) (σ : St) : Option (Int32) :=
  (lp (f_X8_isLikeAnEarlier_l2 t0 x1 x2 σ) FU 0).bind fun q8 => Sum.elim (fun v9 => some 0) (fun v10 => some 1) q8
set_option maxHeartbeats 4000000 in
set_option maxRecDepth 100000 in
theorem w_X8_isLikeAnEarlier_0 (X : Cx g RX8 cX8_isLikeAnEarlier 4 (some .boolean) p s m args meth c) (t0 : Nat) (hk0 : kd t0 = 9) (x1 : Int32) (x2 : Int32) (σ : St) {w : Int32} (KR : ∀ (H : Heap) (locs : List Loc) (ls : Array Slot) (pc : Nat), Wd g s σ H locs → decode cX8_isLikeAnEarlier pc = .ok (.ireturn, 1) → W p l e (rmm 2 45) s m args below meth c H locs 0 0 Q (F0 m pc ls [.int (w)])) {H : Heap} {locs : List Loc} {ls : Array Slot} (Y : Wd g s σ H locs) (hl : lv_has ls 4 [(0, .ref (g.2.2 (t0))), (1, .int (x1)), (2, .int (x2))]) (h : f_X8_isLikeAnEarlier_0 t0 x1 x2 σ = some w) : W p l e (rmm 2 45) s m args below meth c H locs 0 0 Q (F0 m 0 ls []) := by
  unfold f_X8_isLikeAnEarlier_0 at h
  refine lv_iconst (v := 0) X.1 X.2.1 (dk T_X8_isLikeAnEarlier 0 rfl) ic_0 ?_
  refine lv_istore_n (lv' := [(3, .int (0)), (0, .ref (g.2.2 (t0))), (1, .int (x1)), (2, .int (x2))]) X.1 X.2.1 (dk T_X8_isLikeAnEarlier 1 rfl) rfl hl (Nat.le_of_ble_eq_true rfl) rfl (fun ls hl => ?_)
  obtain ⟨q8, hq8, h⟩ := bs h
  refine w_X8_isLikeAnEarlier_l2 X t0 hk0 x1 x2 σ (fun v e H locs ls Y hl => ?_) (fun v e H locs ls Y hl => ?_) FU 0 Y (lv_sub hl [1, 2, 3, 0] rfl) hq8
  · obtain rfl := e
    replace h := sel h
    refine lv_iconst (v := 0) X.1 X.2.1 (dk T_X8_isLikeAnEarlier 27 rfl) ic_0 ?_
    obtain rfl := Option.some.inj h
    exact KR _ _ _ _ Y (dk T_X8_isLikeAnEarlier 28 rfl)
  · obtain rfl := e
    replace h := ser h
    refine lv_iconst (v := 1) X.1 X.2.1 (dk T_X8_isLikeAnEarlier 23 rfl) ic_1 ?_
    obtain rfl := Option.some.inj h
    exact KR _ _ _ _ Y (dk T_X8_isLikeAnEarlier 24 rfl)
def f_X8_isLikeAnEarlier (t0 : Nat) (x1 : Int32) (x2 : Int32) (σ : St) : Option (Int32) := bz (f_X8_isLikeAnEarlier_0 t0 x1 x2 σ)
set_option maxHeartbeats 4000000 in
set_option maxRecDepth 100000 in
theorem c_X8_isLikeAnEarlier {l : Launch} {g : Geo} (t0 : Nat) (hk0 : kd t0 = 9) (x1 : Int32) (x2 : Int32) (σ : St) {w : Int32} (h : f_X8_isLikeAnEarlier t0 x1 x2 σ = some w) : CtI l yX8_isLikeAnEarlier cX8_isLikeAnEarlier 4 (some .boolean) (rmm 2 45) g [.ref (g.2.2 (t0)), .int (x1), .int (x2)] σ w σ := by
  obtain ⟨h, hz⟩ := bz_s h
  exact enI .boolean (by decide) rfl (bz_n hz) (Nat.le_of_ble_eq_true rfl) (fun p e s m args below meth c Q X Y ls hl KR => w_X8_isLikeAnEarlier_0 X t0 hk0 x1 x2 σ KR Y hl h)
def I_X8_differentTurns : List (Nat × Instr × Nat) := [(0, .iconst 0, 1), (1, .istore_n 2, 1), (2, .iconst 0, 1), (3, .istore_n 3, 1), (4, .iload_n 3, 1), (5, .iconst 4, 1), (6, .if_icmp .ge 21, 3), (9, .aload_n 0, 1), (10, .iload_n 1, 1), (11, .iload_n 3, 1), (12, .invokevirtual 72, 3), (15, .ifCond .ne 6, 3), (18, .iinc 2 1, 3), (21, .iinc 3 1, 3), (24, .goto (-20), 3), (27, .iload_n 2, 1), (28, .ireturn, 1)]
set_option maxRecDepth 100000 in
theorem T_X8_differentTurns : ∀ q ∈ I_X8_differentTurns, decode cX8_differentTurns q.1 = .ok (q.2.1, q.2.2) := by decide +kernel
def f_X8_differentTurns_j21 (t0 : Nat) (x1 : Int32) (x2 : Int32) (x3 : Int32) (σ : St) : Option ((Int32 × Int32) ⊕ (Int32)) :=
  some (.inl (x2, x3 + 1))
set_option maxHeartbeats 4000000 in
set_option maxRecDepth 100000 in
theorem w_X8_differentTurns_j21 (X : Cx g RX8 cX8_differentTurns 4 (some .int) p s m args meth c) (t0 : Nat) (hk0 : kd t0 = 9) (x1 : Int32) (x2 : Int32) (x3 : Int32) (σ : St) {w : (Int32 × Int32) ⊕ (Int32)} (KB : ∀ (v0_ : Int32) (v1_ : Int32), w = .inl (v0_, v1_) → ∀ (H : Heap) (locs : List Loc) (ls : Array Slot), Wd g s σ H locs → lv_has ls 4 [(0, .ref (g.2.2 (t0))), (1, .int (x1)), (2, .int (v0_)), (3, .int (v1_))] → W p l e (rmm 3 68) s m args below meth c H locs 0 0 Q (F0 m 4 ls [])) (KX0 : ∀ (v : Int32), w = .inr v → ∀ (H : Heap) (locs : List Loc) (ls : Array Slot), Wd g s σ H locs → lv_has ls 4 [(2, .int (v))] → W p l e (rmm 3 68) s m args below meth c H locs 0 0 Q (F0 m 27 ls [])) {H : Heap} {locs : List Loc} {ls : Array Slot} (Y : Wd g s σ H locs) (hl : lv_has ls 4 [(0, .ref (g.2.2 (t0))), (1, .int (x1)), (2, .int (x2)), (3, .int (x3))]) (h : f_X8_differentTurns_j21 t0 x1 x2 x3 σ = some w) : W p l e (rmm 3 68) s m args below meth c H locs 0 0 Q (F0 m 21 ls []) := by
  unfold f_X8_differentTurns_j21 at h
  refine lv_iinc (v := x3 + 1) (lv' := [(3, .int (x3 + 1)), (0, .ref (g.2.2 (t0))), (1, .int (x1)), (2, .int (x2))]) X.1 X.2.1 (dk T_X8_differentTurns 13 rfl) hl (k := 3) rfl (icx ic_1) (Nat.le_of_ble_eq_true rfl) rfl (fun ls hl => ?_)
  refine lv_goto (tgt := 4) X.1 X.2.1 (dk T_X8_differentTurns 14 rfl) rfl ?_
  exact KB x2 (x3 + 1) (Option.some.inj h).symm _ _ _ Y (lv_sub hl [1, 2, 3, 0] rfl)
def f_X8_differentTurns_l4 (t0 : Nat) (x1 : Int32) (σ : St) (z : Int32 × Int32) : Option ((Int32 × Int32) ⊕ (Int32)) :=
  if 4 ≤ z.2 then some (.inr z.1) else (f_X8_isLikeAnEarlier t0 x1 z.2 σ).bind fun q2 => if q2 = 0 then f_X8_differentTurns_j21 t0 x1 (z.1 + 1) z.2 σ else f_X8_differentTurns_j21 t0 x1 z.1 z.2 σ
set_option maxHeartbeats 4000000 in
set_option maxRecDepth 100000 in
theorem w_X8_differentTurns_l4 (X : Cx g RX8 cX8_differentTurns 4 (some .int) p s m args meth c) (t0 : Nat) (hk0 : kd t0 = 9) (x1 : Int32) (σ : St) {r : Int32} (KX0 : ∀ (v : Int32), r = v → ∀ (H : Heap) (locs : List Loc) (ls : Array Slot), Wd g s σ H locs → lv_has ls 4 [(2, .int (v))] → W p l e (rmm 3 68) s m args below meth c H locs 0 0 Q (F0 m 27 ls [])) : ∀ (n : Nat) (z : Int32 × Int32) {H : Heap} {locs : List Loc} {ls : Array Slot}, Wd g s σ H locs → lv_has ls 4 [(0, .ref (g.2.2 (t0))), (1, .int (x1)), (2, .int (z.1)), (3, .int (z.2))] → lp (f_X8_differentTurns_l4 t0 x1 σ) n z = some r → W p l e (rmm 3 68) s m args below meth c H locs 0 0 Q (F0 m 4 ls []) := by
  intro n
  induction n with
  | zero => intro z H locs ls Y hl h; cases h
  | succ n ih =>
    intro z H locs ls Y hl h
    obtain ⟨w, h, hw⟩ := lps h
    have KB : ∀ (v0_ : Int32) (v1_ : Int32), w = .inl (v0_, v1_) → ∀ (H : Heap) (locs : List Loc) (ls : Array Slot), Wd g s σ H locs → lv_has ls 4 [(0, .ref (g.2.2 (t0))), (1, .int (x1)), (2, .int (v0_)), (3, .int (v1_))] → W p l e (rmm 3 68) s m args below meth c H locs 0 0 Q (F0 m 4 ls []) := fun v0_ v1_ e H locs ls Y hl => ih (v0_, v1_) Y hl (lpl hw e)
    have KX0 := fun (v : Int32) (e : w = .inr v) => KX0 v (lpr hw e)
    unfold f_X8_differentTurns_l4 at h
    refine lv_iload_n X.1 X.2.1 (dk T_X8_differentTurns 4 rfl) rfl (lv_at hl 3 rfl) ?_
    refine lv_iconst (v := 4) X.1 X.2.1 (dk T_X8_differentTurns 5 rfl) ic_4 ?_
    refine lv_icmp_ge (tgt := 27) X.1 X.2.1 (dk T_X8_differentTurns 6 rfl) rfl (fun c1 => ?_) (fun c1 => ?_)
    · replace h := ipos c1 h
      exact KX0 z.1 (Option.some.inj h).symm _ _ _ Y (lv_sub hl [2] rfl)
    · replace h := ineg c1 h
      refine lv_aload_n X.1 X.2.1 (dk T_X8_differentTurns 7 rfl) rfl (lv_at hl 0 rfl) ?_
      refine lv_iload_n X.1 X.2.1 (dk T_X8_differentTurns 8 rfl) rfl (lv_at hl 1 rfl) ?_
      refine lv_iload_n X.1 X.2.1 (dk T_X8_differentTurns 9 rfl) rfl (lv_at hl 3 rfl) ?_
      obtain ⟨q2, hq2, h⟩ := bs h
      refine gvI (rest := []) X Y (c_X8_isLikeAnEarlier t0 hk0 x1 z.2 σ hq2) cb_X8_72 hk0 hl.1 rfl rfl (Nat.le_of_ble_eq_true rfl) ⟨Nat.le_of_ble_eq_true rfl, Nat.le_of_ble_eq_true rfl⟩ (dk T_X8_differentTurns 10 rfl) (fun H locs Y => ?_)
      refine lv_if_ne (tgt := 21) X.1 X.2.1 (dk T_X8_differentTurns 11 rfl) rfl (fun c3 => ?_) (fun c3 => ?_)
      · replace h := ineg c3 h
        exact w_X8_differentTurns_j21 X t0 hk0 x1 z.1 z.2 σ KB KX0 Y (lv_sub hl [0, 1, 2, 3] rfl) h
      · replace h := ipos c3 h
        refine lv_iinc (v := z.1 + 1) (lv' := [(2, .int (z.1 + 1)), (0, .ref (g.2.2 (t0))), (1, .int (x1)), (3, .int (z.2))]) X.1 X.2.1 (dk T_X8_differentTurns 12 rfl) hl (k := 2) rfl (icx ic_1) (Nat.le_of_ble_eq_true rfl) rfl (fun ls hl => ?_)
        exact w_X8_differentTurns_j21 X t0 hk0 x1 (z.1 + 1) z.2 σ KB KX0 Y (lv_sub hl [1, 2, 0, 3] rfl) h
def f_X8_differentTurns_0 (t0 : Nat) (x1 : Int32) (σ : St) : Option (Int32) :=
  (lp (f_X8_differentTurns_l4 t0 x1 σ) FU (0, 0)).bind fun q4 => some q4
set_option maxHeartbeats 4000000 in
set_option maxRecDepth 100000 in
theorem w_X8_differentTurns_0 (X : Cx g RX8 cX8_differentTurns 4 (some .int) p s m args meth c) (t0 : Nat) (hk0 : kd t0 = 9) (x1 : Int32) (σ : St) {w : Int32} (KR : ∀ (H : Heap) (locs : List Loc) (ls : Array Slot) (pc : Nat), Wd g s σ H locs → decode cX8_differentTurns pc = .ok (.ireturn, 1) → W p l e (rmm 3 68) s m args below meth c H locs 0 0 Q (F0 m pc ls [.int (w)])) {H : Heap} {locs : List Loc} {ls : Array Slot} (Y : Wd g s σ H locs) (hl : lv_has ls 4 [(0, .ref (g.2.2 (t0))), (1, .int (x1))]) (h : f_X8_differentTurns_0 t0 x1 σ = some w) : W p l e (rmm 3 68) s m args below meth c H locs 0 0 Q (F0 m 0 ls []) := by
  unfold f_X8_differentTurns_0 at h
  refine lv_iconst (v := 0) X.1 X.2.1 (dk T_X8_differentTurns 0 rfl) ic_0 ?_
  refine lv_istore_n (lv' := [(2, .int (0)), (0, .ref (g.2.2 (t0))), (1, .int (x1))]) X.1 X.2.1 (dk T_X8_differentTurns 1 rfl) rfl hl (Nat.le_of_ble_eq_true rfl) rfl (fun ls hl => ?_)
  refine lv_iconst (v := 0) X.1 X.2.1 (dk T_X8_differentTurns 2 rfl) ic_0 ?_
  refine lv_istore_n (lv' := [(3, .int (0)), (2, .int (0)), (0, .ref (g.2.2 (t0))), (1, .int (x1))]) X.1 X.2.1 (dk T_X8_differentTurns 3 rfl) rfl hl (Nat.le_of_ble_eq_true rfl) rfl (fun ls hl => ?_)
  obtain ⟨q4, hq4, h⟩ := bs h
  refine w_X8_differentTurns_l4 X t0 hk0 x1 σ (fun v e H locs ls Y hl => ?_) FU (0, 0) Y (lv_sub hl [2, 3, 1, 0] rfl) hq4
  · obtain rfl := e
    refine lv_iload_n X.1 X.2.1 (dk T_X8_differentTurns 15 rfl) rfl (lv_at hl 0 rfl) ?_
    obtain rfl := Option.some.inj h
    exact KR _ _ _ _ Y (dk T_X8_differentTurns 16 rfl)
def f_X8_differentTurns (t0 : Nat) (x1 : Int32) (σ : St) : Option (Int32) := f_X8_differentTurns_0 t0 x1 σ
set_option maxHeartbeats 4000000 in
set_option maxRecDepth 100000 in
theorem c_X8_differentTurns {l : Launch} {g : Geo} (t0 : Nat) (hk0 : kd t0 = 9) (x1 : Int32) (σ : St) {w : Int32} (h : f_X8_differentTurns t0 x1 σ = some w) : CtI l yX8_differentTurns cX8_differentTurns 4 (some .int) (rmm 3 68) g [.ref (g.2.2 (t0)), .int (x1)] σ w σ := enI .int (by decide) rfl rfl (Nat.le_of_ble_eq_true rfl) (fun p e s m args below meth c Q X Y ls hl KR => w_X8_differentTurns_0 X t0 hk0 x1 σ KR Y hl h)
def I_X8_grainAllows : List (Nat × Instr × Nat) := [(0, .aload_n 0, 1), (1, .getfield 20, 3), (4, .iload_n 1, 1), (5, .iconst 3, 1), (6, .invokevirtual 30, 3), (9, .istore 4, 2), (11, .aload_n 0, 1), (12, .getfield 14, 3), (15, .iload_n 2, 1), (16, .iconst 2, 1), (17, .invokevirtual 30, 3), (20, .istore 5, 2), (22, .iload 4, 2), (24, .ifCond .eq 8, 3), (27, .iload 5, 2), (29, .ifCond .ne 5, 3), (32, .iconst 1, 1), (33, .ireturn, 1), (34, .iload_n 3, 1), (35, .iconst 2, 1), (36, .irem, 1), (37, .ifCond .ne 7, 3), (40, .iconst 1, 1), (41, .goto 4, 3), (44, .iconst 0, 1), (45, .iload 5, 2), (47, .iconst 1, 1), (48, .if_icmp .ne 7, 3), (51, .iconst 1, 1), (52, .goto 4, 3), (55, .iconst 0, 1), (56, .if_icmp .ne 7, 3), (59, .iconst 1, 1), (60, .goto 4, 3), (63, .iconst 0, 1), (64, .istore 6, 2), (66, .iload 6, 2), (68, .iload 4, 2), (70, .iconst 1, 1), (71, .if_icmp .ne 7, 3), (74, .iconst 1, 1), (75, .goto 4, 3), (78, .iconst 0, 1), (79, .if_icmp .ne 7, 3), (82, .iconst 1, 1), (83, .goto 4, 3), (86, .iconst 0, 1), (87, .ireturn, 1)]
set_option maxRecDepth 100000 in
theorem T_X8_grainAllows : ∀ q ∈ I_X8_grainAllows, decode cX8_grainAllows q.1 = .ok (q.2.1, q.2.2) := by decide +kernel
def f_X8_grainAllows_j79 (t0 : Nat) (s0 : Int32) (s1 : Int32) (σ : St) : Option (Int32) :=
  if s1 = s0 then some 1 else some 0
set_option maxHeartbeats 4000000 in
set_option maxRecDepth 100000 in
theorem w_X8_grainAllows_j79 (X : Cx g RX8 cX8_grainAllows 7 (some .boolean) p s m args meth c) (t0 : Nat) (hk0 : kd t0 = 9) (s0 : Int32) (s1 : Int32) (σ : St) {w : Int32} (KR : ∀ (H : Heap) (locs : List Loc) (ls : Array Slot) (pc : Nat), Wd g s σ H locs → decode cX8_grainAllows pc = .ok (.ireturn, 1) → W p l e (rmm 1 23) s m args below meth c H locs 0 0 Q (F0 m pc ls [.int (w)])) {H : Heap} {locs : List Loc} {ls : Array Slot} (Y : Wd g s σ H locs) (hl : lv_has ls 7 []) (h : f_X8_grainAllows_j79 t0 s0 s1 σ = some w) : W p l e (rmm 1 23) s m args below meth c H locs 0 0 Q (F0 m 79 ls [.int (s0), .int (s1)]) := by
  unfold f_X8_grainAllows_j79 at h
  refine lv_icmp_ne (tgt := 86) X.1 X.2.1 (dk T_X8_grainAllows 43 rfl) rfl (fun c10 => ?_) (fun c10 => ?_)
  · replace h := ineg c10 h
    refine lv_iconst (v := 0) X.1 X.2.1 (dk T_X8_grainAllows 46 rfl) ic_0 ?_
    obtain rfl := Option.some.inj h
    exact KR _ _ _ _ Y (dk T_X8_grainAllows 47 rfl)
  · replace h := ipos c10 h
    refine lv_iconst (v := 1) X.1 X.2.1 (dk T_X8_grainAllows 44 rfl) ic_1 ?_
    refine lv_goto (tgt := 87) X.1 X.2.1 (dk T_X8_grainAllows 45 rfl) rfl ?_
    obtain rfl := Option.some.inj h
    exact KR _ _ _ _ Y (dk T_X8_grainAllows 47 rfl)
def f_X8_grainAllows_j64 (t0 : Nat) (x4 : Int32) (s0 : Int32) (σ : St) : Option (Int32) :=
  if x4 = 1 then f_X8_grainAllows_j79 t0 1 s0 σ else f_X8_grainAllows_j79 t0 0 s0 σ
set_option maxHeartbeats 4000000 in
set_option maxRecDepth 100000 in
theorem w_X8_grainAllows_j64 (X : Cx g RX8 cX8_grainAllows 7 (some .boolean) p s m args meth c) (t0 : Nat) (hk0 : kd t0 = 9) (x4 : Int32) (s0 : Int32) (σ : St) {w : Int32} (KR : ∀ (H : Heap) (locs : List Loc) (ls : Array Slot) (pc : Nat), Wd g s σ H locs → decode cX8_grainAllows pc = .ok (.ireturn, 1) → W p l e (rmm 1 23) s m args below meth c H locs 0 0 Q (F0 m pc ls [.int (w)])) {H : Heap} {locs : List Loc} {ls : Array Slot} (Y : Wd g s σ H locs) (hl : lv_has ls 7 [(4, .int (x4))]) (h : f_X8_grainAllows_j64 t0 x4 s0 σ = some w) : W p l e (rmm 1 23) s m args below meth c H locs 0 0 Q (F0 m 64 ls [.int (s0)]) := by
  unfold f_X8_grainAllows_j64 at h
  refine lv_istore (lv' := [(6, .int (s0)), (4, .int (x4))]) X.1 X.2.1 (dk T_X8_grainAllows 35 rfl) hl (Nat.le_of_ble_eq_true rfl) rfl (fun ls hl => ?_)
  refine lv_iload X.1 X.2.1 (dk T_X8_grainAllows 36 rfl) (lv_at hl 0 rfl) ?_
  refine lv_iload X.1 X.2.1 (dk T_X8_grainAllows 37 rfl) (lv_at hl 1 rfl) ?_
  refine lv_iconst (v := 1) X.1 X.2.1 (dk T_X8_grainAllows 38 rfl) ic_1 ?_
  refine lv_icmp_ne (tgt := 78) X.1 X.2.1 (dk T_X8_grainAllows 39 rfl) rfl (fun c9 => ?_) (fun c9 => ?_)
  · replace h := ineg c9 h
    refine lv_iconst (v := 0) X.1 X.2.1 (dk T_X8_grainAllows 42 rfl) ic_0 ?_
    exact w_X8_grainAllows_j79 X t0 hk0 0 s0 σ KR Y (lv_sub hl [] rfl) h
  · replace h := ipos c9 h
    refine lv_iconst (v := 1) X.1 X.2.1 (dk T_X8_grainAllows 40 rfl) ic_1 ?_
    refine lv_goto (tgt := 79) X.1 X.2.1 (dk T_X8_grainAllows 41 rfl) rfl ?_
    exact w_X8_grainAllows_j79 X t0 hk0 1 s0 σ KR Y (lv_sub hl [] rfl) h
def f_X8_grainAllows_j56 (t0 : Nat) (x4 : Int32) (s0 : Int32) (s1 : Int32) (σ : St) : Option (Int32) :=
  if s1 = s0 then f_X8_grainAllows_j64 t0 x4 1 σ else f_X8_grainAllows_j64 t0 x4 0 σ
set_option maxHeartbeats 4000000 in
set_option maxRecDepth 100000 in
theorem w_X8_grainAllows_j56 (X : Cx g RX8 cX8_grainAllows 7 (some .boolean) p s m args meth c) (t0 : Nat) (hk0 : kd t0 = 9) (x4 : Int32) (s0 : Int32) (s1 : Int32) (σ : St) {w : Int32} (KR : ∀ (H : Heap) (locs : List Loc) (ls : Array Slot) (pc : Nat), Wd g s σ H locs → decode cX8_grainAllows pc = .ok (.ireturn, 1) → W p l e (rmm 1 23) s m args below meth c H locs 0 0 Q (F0 m pc ls [.int (w)])) {H : Heap} {locs : List Loc} {ls : Array Slot} (Y : Wd g s σ H locs) (hl : lv_has ls 7 [(4, .int (x4))]) (h : f_X8_grainAllows_j56 t0 x4 s0 s1 σ = some w) : W p l e (rmm 1 23) s m args below meth c H locs 0 0 Q (F0 m 56 ls [.int (s0), .int (s1)]) := by
  unfold f_X8_grainAllows_j56 at h
  refine lv_icmp_ne (tgt := 63) X.1 X.2.1 (dk T_X8_grainAllows 31 rfl) rfl (fun c8 => ?_) (fun c8 => ?_)
  · replace h := ineg c8 h
    refine lv_iconst (v := 0) X.1 X.2.1 (dk T_X8_grainAllows 34 rfl) ic_0 ?_
    exact w_X8_grainAllows_j64 X t0 hk0 x4 0 σ KR Y (lv_sub hl [0] rfl) h
  · replace h := ipos c8 h
    refine lv_iconst (v := 1) X.1 X.2.1 (dk T_X8_grainAllows 32 rfl) ic_1 ?_
    refine lv_goto (tgt := 64) X.1 X.2.1 (dk T_X8_grainAllows 33 rfl) rfl ?_
    exact w_X8_grainAllows_j64 X t0 hk0 x4 1 σ KR Y (lv_sub hl [0] rfl) h
def f_X8_grainAllows_j45 (t0 : Nat) (x4 : Int32) (x5 : Int32) (s0 : Int32) (σ : St) : Option (Int32) :=
  if x5 = 1 then f_X8_grainAllows_j56 t0 x4 1 s0 σ else f_X8_grainAllows_j56 t0 x4 0 s0 σ
set_option maxHeartbeats 4000000 in
set_option maxRecDepth 100000 in
theorem w_X8_grainAllows_j45 (X : Cx g RX8 cX8_grainAllows 7 (some .boolean) p s m args meth c) (t0 : Nat) (hk0 : kd t0 = 9) (x4 : Int32) (x5 : Int32) (s0 : Int32) (σ : St) {w : Int32} (KR : ∀ (H : Heap) (locs : List Loc) (ls : Array Slot) (pc : Nat), Wd g s σ H locs → decode cX8_grainAllows pc = .ok (.ireturn, 1) → W p l e (rmm 1 23) s m args below meth c H locs 0 0 Q (F0 m pc ls [.int (w)])) {H : Heap} {locs : List Loc} {ls : Array Slot} (Y : Wd g s σ H locs) (hl : lv_has ls 7 [(4, .int (x4)), (5, .int (x5))]) (h : f_X8_grainAllows_j45 t0 x4 x5 s0 σ = some w) : W p l e (rmm 1 23) s m args below meth c H locs 0 0 Q (F0 m 45 ls [.int (s0)]) := by
  unfold f_X8_grainAllows_j45 at h
  refine lv_iload X.1 X.2.1 (dk T_X8_grainAllows 25 rfl) (lv_at hl 1 rfl) ?_
  refine lv_iconst (v := 1) X.1 X.2.1 (dk T_X8_grainAllows 26 rfl) ic_1 ?_
  refine lv_icmp_ne (tgt := 55) X.1 X.2.1 (dk T_X8_grainAllows 27 rfl) rfl (fun c7 => ?_) (fun c7 => ?_)
  · replace h := ineg c7 h
    refine lv_iconst (v := 0) X.1 X.2.1 (dk T_X8_grainAllows 30 rfl) ic_0 ?_
    exact w_X8_grainAllows_j56 X t0 hk0 x4 0 s0 σ KR Y (lv_sub hl [0] rfl) h
  · replace h := ipos c7 h
    refine lv_iconst (v := 1) X.1 X.2.1 (dk T_X8_grainAllows 28 rfl) ic_1 ?_
    refine lv_goto (tgt := 56) X.1 X.2.1 (dk T_X8_grainAllows 29 rfl) rfl ?_
    exact w_X8_grainAllows_j56 X t0 hk0 x4 1 s0 σ KR Y (lv_sub hl [0] rfl) h
def f_X8_grainAllows_0 (t0 : Nat) (x1 : Int32) (x2 : Int32) (x3 : Int32) (σ : St) : Option (Int32) :=
  (f_X9_get (t0 + 3) x1 3 σ).bind fun q1 => (f_X9_get (t0 + 1) x2 2 σ).bind fun q2 => if q1 = 0 then some 1 else if q2 = 0 then some 1 else chk (nz 2) (if (x3 - x3 / 2 * 2) = 0 then f_X8_grainAllows_j45 t0 q1 q2 1 σ else f_X8_grainAllows_j45 t0 q1 q2 0 σ)
set_option maxHeartbeats 4000000 in
set_option maxRecDepth 100000 in
theorem w_X8_grainAllows_0 (X : Cx g RX8 cX8_grainAllows 7 (some .boolean) p s m args meth c) (t0 : Nat) (hk0 : kd t0 = 9) (x1 : Int32) (x2 : Int32) (x3 : Int32) (σ : St) {w : Int32} (KR : ∀ (H : Heap) (locs : List Loc) (ls : Array Slot) (pc : Nat), Wd g s σ H locs → decode cX8_grainAllows pc = .ok (.ireturn, 1) → W p l e (rmm 1 23) s m args below meth c H locs 0 0 Q (F0 m pc ls [.int (w)])) {H : Heap} {locs : List Loc} {ls : Array Slot} (Y : Wd g s σ H locs) (hl : lv_has ls 7 [(0, .ref (g.2.2 (t0))), (1, .int (x1)), (2, .int (x2)), (3, .int (x3))]) (h : f_X8_grainAllows_0 t0 x1 x2 x3 σ = some w) : W p l e (rmm 1 23) s m args below meth c H locs 0 0 Q (F0 m 0 ls []) := by
  unfold f_X8_grainAllows_0 at h
  refine lv_aload_n X.1 X.2.1 (dk T_X8_grainAllows 0 rfl) rfl (lv_at hl 0 rfl) ?_
  refine gg X Y fl_X8_20 hk0 rfl (dk T_X8_grainAllows 1 rfl) ?_
  refine lv_iload_n X.1 X.2.1 (dk T_X8_grainAllows 2 rfl) rfl (lv_at hl 1 rfl) ?_
  refine lv_iconst (v := 3) X.1 X.2.1 (dk T_X8_grainAllows 3 rfl) ic_3 ?_
  obtain ⟨q1, hq1, h⟩ := bs h
  refine gvI (rest := []) X Y (c_X9_get (t0 + 3) (ks3 hk0) x1 3 σ hq1) cb_X8_30 (ks3 hk0) hl.1 rfl rfl (Nat.le_of_ble_eq_true rfl) ⟨Nat.le_of_ble_eq_true rfl, Nat.le_of_ble_eq_true rfl⟩ (dk T_X8_grainAllows 4 rfl) (fun H locs Y => ?_)
  refine lv_istore (lv' := [(4, .int (q1)), (0, .ref (g.2.2 (t0))), (1, .int (x1)), (2, .int (x2)), (3, .int (x3))]) X.1 X.2.1 (dk T_X8_grainAllows 5 rfl) hl (Nat.le_of_ble_eq_true rfl) rfl (fun ls hl => ?_)
  refine lv_aload_n X.1 X.2.1 (dk T_X8_grainAllows 6 rfl) rfl (lv_at hl 1 rfl) ?_
  refine gg X Y fl_X8_14 hk0 rfl (dk T_X8_grainAllows 7 rfl) ?_
  refine lv_iload_n X.1 X.2.1 (dk T_X8_grainAllows 8 rfl) rfl (lv_at hl 3 rfl) ?_
  refine lv_iconst (v := 2) X.1 X.2.1 (dk T_X8_grainAllows 9 rfl) ic_2 ?_
  obtain ⟨q2, hq2, h⟩ := bs h
  refine gvI (rest := []) X Y (c_X9_get (t0 + 1) (ks1 hk0) x2 2 σ hq2) cb_X8_30 (ks1 hk0) hl.1 rfl rfl (Nat.le_of_ble_eq_true rfl) ⟨Nat.le_of_ble_eq_true rfl, Nat.le_of_ble_eq_true rfl⟩ (dk T_X8_grainAllows 10 rfl) (fun H locs Y => ?_)
  refine lv_istore (lv' := [(5, .int (q2)), (4, .int (q1)), (0, .ref (g.2.2 (t0))), (1, .int (x1)), (2, .int (x2)), (3, .int (x3))]) X.1 X.2.1 (dk T_X8_grainAllows 11 rfl) hl (Nat.le_of_ble_eq_true rfl) rfl (fun ls hl => ?_)
  refine lv_iload X.1 X.2.1 (dk T_X8_grainAllows 12 rfl) (lv_at hl 1 rfl) ?_
  refine lv_if_eq (tgt := 32) X.1 X.2.1 (dk T_X8_grainAllows 13 rfl) rfl (fun c3 => ?_) (fun c3 => ?_)
  · replace h := ipos c3 h
    refine lv_iconst (v := 1) X.1 X.2.1 (dk T_X8_grainAllows 16 rfl) ic_1 ?_
    obtain rfl := Option.some.inj h
    exact KR _ _ _ _ Y (dk T_X8_grainAllows 17 rfl)
  · replace h := ineg c3 h
    refine lv_iload X.1 X.2.1 (dk T_X8_grainAllows 14 rfl) (lv_at hl 0 rfl) ?_
    refine lv_if_ne (tgt := 34) X.1 X.2.1 (dk T_X8_grainAllows 15 rfl) rfl (fun c4 => ?_) (fun c4 => ?_)
    · replace h := ineg c4 h
      refine lv_iload_n X.1 X.2.1 (dk T_X8_grainAllows 18 rfl) rfl (lv_at hl 5 rfl) ?_
      refine lv_iconst (v := 2) X.1 X.2.1 (dk T_X8_grainAllows 19 rfl) ic_2 ?_
      obtain ⟨g5, h⟩ := gd h
      refine lv_irem X.1 X.2.1 (dk T_X8_grainAllows 20 rfl) (nzp g5) ?_
      refine lv_if_ne (tgt := 44) X.1 X.2.1 (dk T_X8_grainAllows 21 rfl) rfl (fun c6 => ?_) (fun c6 => ?_)
      · replace h := ineg c6 h
        refine lv_iconst (v := 0) X.1 X.2.1 (dk T_X8_grainAllows 24 rfl) ic_0 ?_
        exact w_X8_grainAllows_j45 X t0 hk0 q1 q2 0 σ KR Y (lv_sub hl [1, 0] rfl) h
      · replace h := ipos c6 h
        refine lv_iconst (v := 1) X.1 X.2.1 (dk T_X8_grainAllows 22 rfl) ic_1 ?_
        refine lv_goto (tgt := 45) X.1 X.2.1 (dk T_X8_grainAllows 23 rfl) rfl ?_
        exact w_X8_grainAllows_j45 X t0 hk0 q1 q2 1 σ KR Y (lv_sub hl [1, 0] rfl) h
    · replace h := ipos c4 h
      refine lv_iconst (v := 1) X.1 X.2.1 (dk T_X8_grainAllows 16 rfl) ic_1 ?_
      obtain rfl := Option.some.inj h
      exact KR _ _ _ _ Y (dk T_X8_grainAllows 17 rfl)
def f_X8_grainAllows (t0 : Nat) (x1 : Int32) (x2 : Int32) (x3 : Int32) (σ : St) : Option (Int32) := bz (f_X8_grainAllows_0 t0 x1 x2 x3 σ)
set_option maxHeartbeats 4000000 in
set_option maxRecDepth 100000 in
theorem c_X8_grainAllows {l : Launch} {g : Geo} (t0 : Nat) (hk0 : kd t0 = 9) (x1 : Int32) (x2 : Int32) (x3 : Int32) (σ : St) {w : Int32} (h : f_X8_grainAllows t0 x1 x2 x3 σ = some w) : CtI l yX8_grainAllows cX8_grainAllows 7 (some .boolean) (rmm 1 23) g [.ref (g.2.2 (t0)), .int (x1), .int (x2), .int (x3)] σ w σ := by
  obtain ⟨h, hz⟩ := bz_s h
  exact enI .boolean (by decide) rfl (bz_n hz) (Nat.le_of_ble_eq_true rfl) (fun p e s m args below meth c Q X Y ls hl KR => w_X8_grainAllows_0 X t0 hk0 x1 x2 x3 σ KR Y hl h)
def I_X8_rowsAfter : List (Nat × Instr × Nat) := [(0, .aload_n 0, 1), (1, .getfield 20, 3), (4, .iload_n 1, 1), (5, .iload_n 2, 1), (6, .iconst 2, 1), (7, .irem, 1), (8, .ifCond .ne 7, 3), (11, .iconst 1, 1), (12, .goto 4, 3), (15, .iconst 0, 1), (16, .invokevirtual 30, 3), (19, .ireturn, 1)]
set_option maxRecDepth 100000 in
theorem T_X8_rowsAfter : ∀ q ∈ I_X8_rowsAfter, decode cX8_rowsAfter q.1 = .ok (q.2.1, q.2.2) := by decide +kernel
def f_X8_rowsAfter_j16 (t0 : Nat) (s0 : Int32) (s1 : Int32) (σ : St) : Option (Int32) :=
  (f_X9_get (t0 + 3) s1 s0 σ).bind fun q3 => some q3
set_option maxHeartbeats 4000000 in
set_option maxRecDepth 100000 in
theorem w_X8_rowsAfter_j16 (X : Cx g RX8 cX8_rowsAfter 3 (some .int) p s m args meth c) (t0 : Nat) (hk0 : kd t0 = 9) (s0 : Int32) (s1 : Int32) (σ : St) {w : Int32} (KR : ∀ (H : Heap) (locs : List Loc) (ls : Array Slot) (pc : Nat), Wd g s σ H locs → decode cX8_rowsAfter pc = .ok (.ireturn, 1) → W p l e (rmm 1 23) s m args below meth c H locs 0 0 Q (F0 m pc ls [.int (w)])) {H : Heap} {locs : List Loc} {ls : Array Slot} (Y : Wd g s σ H locs) (hl : lv_has ls 3 []) (h : f_X8_rowsAfter_j16 t0 s0 s1 σ = some w) : W p l e (rmm 1 23) s m args below meth c H locs 0 0 Q (F0 m 16 ls [.int (s0), .int (s1), .ref (g.2.2 ((t0 + 3)))]) := by
  unfold f_X8_rowsAfter_j16 at h
  obtain ⟨q3, hq3, h⟩ := bs h
  refine gvI (rest := []) X Y (c_X9_get (t0 + 3) (ks3 hk0) s1 s0 σ hq3) cb_X8_30 (ks3 hk0) hl.1 rfl rfl (Nat.le_of_ble_eq_true rfl) ⟨Nat.le_of_ble_eq_true rfl, Nat.le_of_ble_eq_true rfl⟩ (dk T_X8_rowsAfter 10 rfl) (fun H locs Y => ?_)
  obtain rfl := Option.some.inj h
  exact KR _ _ _ _ Y (dk T_X8_rowsAfter 11 rfl)
def f_X8_rowsAfter_0 (t0 : Nat) (x1 : Int32) (x2 : Int32) (σ : St) : Option (Int32) :=
  chk (nz 2) (if (x2 - x2 / 2 * 2) = 0 then f_X8_rowsAfter_j16 t0 1 x1 σ else f_X8_rowsAfter_j16 t0 0 x1 σ)
set_option maxHeartbeats 4000000 in
set_option maxRecDepth 100000 in
theorem w_X8_rowsAfter_0 (X : Cx g RX8 cX8_rowsAfter 3 (some .int) p s m args meth c) (t0 : Nat) (hk0 : kd t0 = 9) (x1 : Int32) (x2 : Int32) (σ : St) {w : Int32} (KR : ∀ (H : Heap) (locs : List Loc) (ls : Array Slot) (pc : Nat), Wd g s σ H locs → decode cX8_rowsAfter pc = .ok (.ireturn, 1) → W p l e (rmm 1 23) s m args below meth c H locs 0 0 Q (F0 m pc ls [.int (w)])) {H : Heap} {locs : List Loc} {ls : Array Slot} (Y : Wd g s σ H locs) (hl : lv_has ls 3 [(0, .ref (g.2.2 (t0))), (1, .int (x1)), (2, .int (x2))]) (h : f_X8_rowsAfter_0 t0 x1 x2 σ = some w) : W p l e (rmm 1 23) s m args below meth c H locs 0 0 Q (F0 m 0 ls []) := by
  unfold f_X8_rowsAfter_0 at h
  refine lv_aload_n X.1 X.2.1 (dk T_X8_rowsAfter 0 rfl) rfl (lv_at hl 0 rfl) ?_
  refine gg X Y fl_X8_20 hk0 rfl (dk T_X8_rowsAfter 1 rfl) ?_
  refine lv_iload_n X.1 X.2.1 (dk T_X8_rowsAfter 2 rfl) rfl (lv_at hl 1 rfl) ?_
  refine lv_iload_n X.1 X.2.1 (dk T_X8_rowsAfter 3 rfl) rfl (lv_at hl 2 rfl) ?_
  refine lv_iconst (v := 2) X.1 X.2.1 (dk T_X8_rowsAfter 4 rfl) ic_2 ?_
  obtain ⟨g1, h⟩ := gd h
  refine lv_irem X.1 X.2.1 (dk T_X8_rowsAfter 5 rfl) (nzp g1) ?_
  refine lv_if_ne (tgt := 15) X.1 X.2.1 (dk T_X8_rowsAfter 6 rfl) rfl (fun c2 => ?_) (fun c2 => ?_)
  · replace h := ineg c2 h
    refine lv_iconst (v := 0) X.1 X.2.1 (dk T_X8_rowsAfter 9 rfl) ic_0 ?_
    exact w_X8_rowsAfter_j16 X t0 hk0 0 x1 σ KR Y (lv_sub hl [] rfl) h
  · replace h := ipos c2 h
    refine lv_iconst (v := 1) X.1 X.2.1 (dk T_X8_rowsAfter 7 rfl) ic_1 ?_
    refine lv_goto (tgt := 16) X.1 X.2.1 (dk T_X8_rowsAfter 8 rfl) rfl ?_
    exact w_X8_rowsAfter_j16 X t0 hk0 1 x1 σ KR Y (lv_sub hl [] rfl) h
def f_X8_rowsAfter (t0 : Nat) (x1 : Int32) (x2 : Int32) (σ : St) : Option (Int32) := f_X8_rowsAfter_0 t0 x1 x2 σ
set_option maxHeartbeats 4000000 in
set_option maxRecDepth 100000 in
theorem c_X8_rowsAfter {l : Launch} {g : Geo} (t0 : Nat) (hk0 : kd t0 = 9) (x1 : Int32) (x2 : Int32) (σ : St) {w : Int32} (h : f_X8_rowsAfter t0 x1 x2 σ = some w) : CtI l yX8_rowsAfter cX8_rowsAfter 3 (some .int) (rmm 1 23) g [.ref (g.2.2 (t0)), .int (x1), .int (x2)] σ w σ := enI .int (by decide) rfl rfl (Nat.le_of_ble_eq_true rfl) (fun p e s m args below meth c Q X Y ls hl KR => w_X8_rowsAfter_0 X t0 hk0 x1 x2 σ KR Y hl h)
def I_X8_createPart : List (Nat × Instr × Nat) := [(0, .aload_n 0, 1), (1, .getfield 23, 3), (4, .invokevirtual 54, 3), (7, .istore 6, 2), (9, .aload_n 0, 1), (10, .getfield 23, 3), (13, .iload 6, 2), (15, .iconst 0, 1), (16, .iload_n 1, 1), (17, .invokevirtual 41, 3), (20, .aload_n 0, 1), (21, .getfield 23, 3), (24, .iload 6, 2), (26, .iconst 1, 1), (27, .iload_n 2, 1), (28, .invokevirtual 41, 3), (31, .aload_n 0, 1), (32, .getfield 23, 3), (35, .iload 6, 2), (37, .iconst 2, 1), (38, .iload_n 3, 1), (39, .invokevirtual 41, 3), (42, .aload_n 0, 1), (43, .getfield 23, 3), (46, .iload 6, 2), (48, .iconst 3, 1), (49, .iload 4, 2), (51, .invokevirtual 41, 3), (54, .aload_n 0, 1), (55, .getfield 23, 3), (58, .iload 6, 2), (60, .iconst 4, 1), (61, .iload 5, 2), (63, .invokevirtual 41, 3), (66, .aload_n 0, 1), (67, .iload_n 1, 1), (68, .iload 5, 2), (70, .invokevirtual 76, 3), (73, .istore 7, 2), (75, .aload_n 0, 1), (76, .iload_n 1, 1), (77, .iload 5, 2), (79, .invokevirtual 79, 3), (82, .istore 8, 2), (84, .iconst 0, 1), (85, .istore 9, 2), (87, .iload 9, 2), (89, .aload_n 0, 1), (90, .iload_n 1, 1), (91, .iload 5, 2), (93, .invokevirtual 82, 3), (96, .if_icmp .ge 62, 3), (99, .iconst 0, 1), (100, .istore 10, 2), (102, .iload 10, 2), (104, .iload 7, 2), (106, .if_icmp .ge 46, 3), (109, .iload 8, 2), (111, .iload 7, 2), (113, .iload 10, 2), (115, .iload 9, 2), (117, .invokestatic 85, 3), (120, .ifCond .eq 26, 3), (123, .aload_n 0, 1), (124, .iload_n 2, 1), (125, .iload_n 3, 1), (126, .iload 10, 2), (128, .iadd, 1), (129, .aload_n 0, 1), (130, .iload_n 2, 1), (131, .invokevirtual 34, 3), (134, .iload 4, 2), (136, .iload 9, 2), (138, .iadd, 1), (139, .imul, 1), (140, .iadd, 1), (141, .iload 6, 2), (143, .invokevirtual 58, 3), (146, .iinc 10 1, 3), (149, .goto (-47), 3), (152, .iinc 9 1, 3), (155, .goto (-68), 3), (158, .aload_n 0, 1), (159, .getfield 20, 3), (162, .iload_n 1, 1), (163, .iconst 4, 1), (164, .aload_n 0, 1), (165, .getfield 20, 3), (168, .iload_n 1, 1), (169, .iconst 4, 1), (170, .invokevirtual 30, 3), (173, .iconst 1, 1), (174, .isub, 1), (175, .invokevirtual 41, 3), (178, .iload 6, 2), (180, .ireturn, 1)]
set_option maxRecDepth 100000 in
theorem T_X8_createPart : ∀ q ∈ I_X8_createPart, decode cX8_createPart q.1 = .ok (q.2.1, q.2.2) := by decide +kernel
def f_X8_createPart_j146 (t0 : Nat) (x1 : Int32) (x2 : Int32) (x3 : Int32) (x4 : Int32) (x5 : Int32) (x6 : Int32) (x7 : Int32) (x8 : Int32) (x9 : Int32) (x10 : Int32) (σ : St) : Option ((Int32 × St) ⊕ (St)) :=
  some (.inl (x10 + 1, σ))
set_option maxHeartbeats 4000000 in
set_option maxRecDepth 100000 in
theorem w_X8_createPart_j146 (X : Cx g RX8 cX8_createPart 11 (some .int) p s m args meth c) (t0 : Nat) (hk0 : kd t0 = 9) (x1 : Int32) (x2 : Int32) (x3 : Int32) (x4 : Int32) (x5 : Int32) (x6 : Int32) (x7 : Int32) (x8 : Int32) (x9 : Int32) (x10 : Int32) (σ : St) {w : (Int32 × St) ⊕ (St)} (KB : ∀ (v0_ : Int32) (v1_ : St), w = .inl (v0_, v1_) → ∀ (H : Heap) (locs : List Loc) (ls : Array Slot), Wd g s v1_ H locs → lv_has ls 11 [(0, .ref (g.2.2 (t0))), (1, .int (x1)), (2, .int (x2)), (3, .int (x3)), (4, .int (x4)), (5, .int (x5)), (6, .int (x6)), (7, .int (x7)), (8, .int (x8)), (9, .int (x9)), (10, .int (v0_))] → W p l e (rmm 2 47) s m args below meth c H locs 0 0 Q (F0 m 102 ls [])) (KX0 : ∀ (v : St), w = .inr v → ∀ (H : Heap) (locs : List Loc) (ls : Array Slot), Wd g s v H locs → lv_has ls 11 [(0, .ref (g.2.2 (t0))), (1, .int (x1)), (2, .int (x2)), (3, .int (x3)), (4, .int (x4)), (5, .int (x5)), (6, .int (x6)), (7, .int (x7)), (8, .int (x8)), (9, .int (x9))] → W p l e (rmm 2 47) s m args below meth c H locs 0 0 Q (F0 m 152 ls [])) {H : Heap} {locs : List Loc} {ls : Array Slot} (Y : Wd g s σ H locs) (hl : lv_has ls 11 [(0, .ref (g.2.2 (t0))), (1, .int (x1)), (2, .int (x2)), (3, .int (x3)), (4, .int (x4)), (5, .int (x5)), (6, .int (x6)), (7, .int (x7)), (8, .int (x8)), (9, .int (x9)), (10, .int (x10))]) (h : f_X8_createPart_j146 t0 x1 x2 x3 x4 x5 x6 x7 x8 x9 x10 σ = some w) : W p l e (rmm 2 47) s m args below meth c H locs 0 0 Q (F0 m 146 ls []) := by
  unfold f_X8_createPart_j146 at h
  refine lv_iinc (v := x10 + 1) (lv' := [(10, .int (x10 + 1)), (0, .ref (g.2.2 (t0))), (1, .int (x1)), (2, .int (x2)), (3, .int (x3)), (4, .int (x4)), (5, .int (x5)), (6, .int (x6)), (7, .int (x7)), (8, .int (x8)), (9, .int (x9))]) X.1 X.2.1 (dk T_X8_createPart 78 rfl) hl (k := 10) rfl (icx ic_1) (Nat.le_of_ble_eq_true rfl) rfl (fun ls hl => ?_)
  refine lv_goto (tgt := 102) X.1 X.2.1 (dk T_X8_createPart 79 rfl) rfl ?_
  exact KB (x10 + 1) σ (Option.some.inj h).symm _ _ _ Y (lv_sub hl [1, 2, 3, 4, 5, 6, 7, 8, 9, 10, 0] rfl)
def f_X8_createPart_l102 (t0 : Nat) (x1 : Int32) (x2 : Int32) (x3 : Int32) (x4 : Int32) (x5 : Int32) (x6 : Int32) (x7 : Int32) (x8 : Int32) (x9 : Int32) (z : Int32 × St) : Option ((Int32 × St) ⊕ (St)) :=
  if x7 ≤ z.1 then some (.inr z.2) else (f_X3_covers x8 x7 z.1 x9).bind fun q12 => if q12 = 0 then f_X8_createPart_j146 t0 x1 x2 x3 x4 x5 x6 x7 x8 x9 z.1 z.2 else (f_X8_columnsOf t0 x2 z.2).bind fun q14 => (f_X8_setCell t0 x2 ((x3 + z.1) + (q14 * (x4 + x9))) x6 z.2).bind fun q15 => f_X8_createPart_j146 t0 x1 x2 x3 x4 x5 x6 x7 x8 x9 z.1 q15
set_option maxHeartbeats 4000000 in
set_option maxRecDepth 100000 in
theorem w_X8_createPart_l102 (X : Cx g RX8 cX8_createPart 11 (some .int) p s m args meth c) (t0 : Nat) (hk0 : kd t0 = 9) (x1 : Int32) (x2 : Int32) (x3 : Int32) (x4 : Int32) (x5 : Int32) (x6 : Int32) (x7 : Int32) (x8 : Int32) (x9 : Int32) (σ : St) {r : St} (KX0 : ∀ (v : St), r = v → ∀ (H : Heap) (locs : List Loc) (ls : Array Slot), Wd g s v H locs → lv_has ls 11 [(0, .ref (g.2.2 (t0))), (1, .int (x1)), (2, .int (x2)), (3, .int (x3)), (4, .int (x4)), (5, .int (x5)), (6, .int (x6)), (7, .int (x7)), (8, .int (x8)), (9, .int (x9))] → W p l e (rmm 2 47) s m args below meth c H locs 0 0 Q (F0 m 152 ls [])) : ∀ (n : Nat) (z : Int32 × St) {H : Heap} {locs : List Loc} {ls : Array Slot}, Wd g s z.2 H locs → lv_has ls 11 [(0, .ref (g.2.2 (t0))), (1, .int (x1)), (2, .int (x2)), (3, .int (x3)), (4, .int (x4)), (5, .int (x5)), (6, .int (x6)), (7, .int (x7)), (8, .int (x8)), (9, .int (x9)), (10, .int (z.1))] → lp (f_X8_createPart_l102 t0 x1 x2 x3 x4 x5 x6 x7 x8 x9) n z = some r → W p l e (rmm 2 47) s m args below meth c H locs 0 0 Q (F0 m 102 ls []) := by
  intro n
  induction n with
  | zero => intro z H locs ls Y hl h; cases h
  | succ n ih =>
    intro z H locs ls Y hl h
    obtain ⟨w, h, hw⟩ := lps h
    have KB : ∀ (v0_ : Int32) (v1_ : St), w = .inl (v0_, v1_) → ∀ (H : Heap) (locs : List Loc) (ls : Array Slot), Wd g s v1_ H locs → lv_has ls 11 [(0, .ref (g.2.2 (t0))), (1, .int (x1)), (2, .int (x2)), (3, .int (x3)), (4, .int (x4)), (5, .int (x5)), (6, .int (x6)), (7, .int (x7)), (8, .int (x8)), (9, .int (x9)), (10, .int (v0_))] → W p l e (rmm 2 47) s m args below meth c H locs 0 0 Q (F0 m 102 ls []) := fun v0_ v1_ e H locs ls Y hl => ih (v0_, v1_) Y hl (lpl hw e)
    have KX0 := fun (v : St) (e : w = .inr v) => KX0 v (lpr hw e)
    unfold f_X8_createPart_l102 at h
    refine lv_iload X.1 X.2.1 (dk T_X8_createPart 54 rfl) (lv_at hl 10 rfl) ?_
    refine lv_iload X.1 X.2.1 (dk T_X8_createPart 55 rfl) (lv_at hl 7 rfl) ?_
    refine lv_icmp_ge (tgt := 152) X.1 X.2.1 (dk T_X8_createPart 56 rfl) rfl (fun c11 => ?_) (fun c11 => ?_)
    · replace h := ipos c11 h
      exact KX0 z.2 (Option.some.inj h).symm _ _ _ Y (lv_sub hl [0, 1, 2, 3, 4, 5, 6, 7, 8, 9] rfl)
    · replace h := ineg c11 h
      refine lv_iload X.1 X.2.1 (dk T_X8_createPart 57 rfl) (lv_at hl 8 rfl) ?_
      refine lv_iload X.1 X.2.1 (dk T_X8_createPart 58 rfl) (lv_at hl 7 rfl) ?_
      refine lv_iload X.1 X.2.1 (dk T_X8_createPart 59 rfl) (lv_at hl 10 rfl) ?_
      refine lv_iload X.1 X.2.1 (dk T_X8_createPart 60 rfl) (lv_at hl 9 rfl) ?_
      obtain ⟨q12, hq12, h⟩ := bs h
      refine gsI (rest := []) X Y (c_X3_covers x8 x7 z.1 x9 z.2 hq12) cb_X8_85 hl.1 rfl rfl (Nat.le_of_ble_eq_true rfl) ⟨Nat.le_of_ble_eq_true rfl, Nat.le_of_ble_eq_true rfl⟩ (dk T_X8_createPart 61 rfl) (fun H locs Y => ?_)
      refine lv_if_eq (tgt := 146) X.1 X.2.1 (dk T_X8_createPart 62 rfl) rfl (fun c13 => ?_) (fun c13 => ?_)
      · replace h := ipos c13 h
        exact w_X8_createPart_j146 X t0 hk0 x1 x2 x3 x4 x5 x6 x7 x8 x9 z.1 z.2 KB KX0 Y (lv_sub hl [0, 1, 2, 3, 4, 5, 6, 7, 8, 9, 10] rfl) h
      · replace h := ineg c13 h
        refine lv_aload_n X.1 X.2.1 (dk T_X8_createPart 63 rfl) rfl (lv_at hl 0 rfl) ?_
        refine lv_iload_n X.1 X.2.1 (dk T_X8_createPart 64 rfl) rfl (lv_at hl 2 rfl) ?_
        refine lv_iload_n X.1 X.2.1 (dk T_X8_createPart 65 rfl) rfl (lv_at hl 3 rfl) ?_
        refine lv_iload X.1 X.2.1 (dk T_X8_createPart 66 rfl) (lv_at hl 10 rfl) ?_
        refine lv_iadd X.1 X.2.1 (dk T_X8_createPart 67 rfl) ?_
        refine lv_aload_n X.1 X.2.1 (dk T_X8_createPart 68 rfl) rfl (lv_at hl 0 rfl) ?_
        refine lv_iload_n X.1 X.2.1 (dk T_X8_createPart 69 rfl) rfl (lv_at hl 2 rfl) ?_
        obtain ⟨q14, hq14, h⟩ := bs h
        refine gvI (rest := [.int (x3 + z.1), .int (x2), .ref (g.2.2 (t0))]) X Y (c_X8_columnsOf t0 hk0 x2 z.2 hq14) cb_X8_34 hk0 hl.1 rfl rfl (Nat.le_of_ble_eq_true rfl) ⟨Nat.le_of_ble_eq_true rfl, Nat.le_of_ble_eq_true rfl⟩ (dk T_X8_createPart 70 rfl) (fun H locs Y => ?_)
        refine lv_iload X.1 X.2.1 (dk T_X8_createPart 71 rfl) (lv_at hl 4 rfl) ?_
        refine lv_iload X.1 X.2.1 (dk T_X8_createPart 72 rfl) (lv_at hl 9 rfl) ?_
        refine lv_iadd X.1 X.2.1 (dk T_X8_createPart 73 rfl) ?_
        refine lv_imul X.1 X.2.1 (dk T_X8_createPart 74 rfl) ?_
        refine lv_iadd X.1 X.2.1 (dk T_X8_createPart 75 rfl) ?_
        refine lv_iload X.1 X.2.1 (dk T_X8_createPart 76 rfl) (lv_at hl 6 rfl) ?_
        obtain ⟨q15, hq15, h⟩ := bs h
        refine gvV (rest := []) X Y (c_X8_setCell t0 hk0 x2 ((x3 + z.1) + (q14 * (x4 + x9))) x6 z.2 hq15) cb_X8_58 hk0 hl.1 rfl rfl (Nat.le_of_ble_eq_true rfl) ⟨Nat.le_of_ble_eq_true rfl, Nat.le_of_ble_eq_true rfl⟩ (dk T_X8_createPart 77 rfl) (fun H locs Y => ?_)
        exact w_X8_createPart_j146 X t0 hk0 x1 x2 x3 x4 x5 x6 x7 x8 x9 z.1 q15 KB KX0 Y (lv_sub hl [0, 1, 2, 3, 4, 5, 6, 7, 8, 9, 10] rfl) h
def f_X8_createPart_l87 (t0 : Nat) (x1 : Int32) (x2 : Int32) (x3 : Int32) (x4 : Int32) (x5 : Int32) (x6 : Int32) (x7 : Int32) (x8 : Int32) (z : Int32 × St) : Option ((Int32 × St) ⊕ (St)) :=
  (f_X8_rowsAfter t0 x1 x5 z.2).bind fun q9 => if q9 ≤ z.1 then some (.inr z.2) else (lp (f_X8_createPart_l102 t0 x1 x2 x3 x4 x5 x6 x7 x8 z.1) FU (0, z.2)).bind fun q16 => some (.inl (z.1 + 1, q16))
set_option maxHeartbeats 4000000 in
set_option maxRecDepth 100000 in
theorem w_X8_createPart_l87 (X : Cx g RX8 cX8_createPart 11 (some .int) p s m args meth c) (t0 : Nat) (hk0 : kd t0 = 9) (x1 : Int32) (x2 : Int32) (x3 : Int32) (x4 : Int32) (x5 : Int32) (x6 : Int32) (x7 : Int32) (x8 : Int32) (σ : St) {r : St} (KX0 : ∀ (v : St), r = v → ∀ (H : Heap) (locs : List Loc) (ls : Array Slot), Wd g s v H locs → lv_has ls 11 [(0, .ref (g.2.2 (t0))), (1, .int (x1)), (6, .int (x6))] → W p l e (rmm 2 47) s m args below meth c H locs 0 0 Q (F0 m 158 ls [])) : ∀ (n : Nat) (z : Int32 × St) {H : Heap} {locs : List Loc} {ls : Array Slot}, Wd g s z.2 H locs → lv_has ls 11 [(0, .ref (g.2.2 (t0))), (1, .int (x1)), (2, .int (x2)), (3, .int (x3)), (4, .int (x4)), (5, .int (x5)), (6, .int (x6)), (7, .int (x7)), (8, .int (x8)), (9, .int (z.1))] → lp (f_X8_createPart_l87 t0 x1 x2 x3 x4 x5 x6 x7 x8) n z = some r → W p l e (rmm 2 47) s m args below meth c H locs 0 0 Q (F0 m 87 ls []) := by
  intro n
  induction n with
  | zero => intro z H locs ls Y hl h; cases h
  | succ n ih =>
    intro z H locs ls Y hl h
    obtain ⟨w, h, hw⟩ := lps h
    have KB : ∀ (v0_ : Int32) (v1_ : St), w = .inl (v0_, v1_) → ∀ (H : Heap) (locs : List Loc) (ls : Array Slot), Wd g s v1_ H locs → lv_has ls 11 [(0, .ref (g.2.2 (t0))), (1, .int (x1)), (2, .int (x2)), (3, .int (x3)), (4, .int (x4)), (5, .int (x5)), (6, .int (x6)), (7, .int (x7)), (8, .int (x8)), (9, .int (v0_))] → W p l e (rmm 2 47) s m args below meth c H locs 0 0 Q (F0 m 87 ls []) := fun v0_ v1_ e H locs ls Y hl => ih (v0_, v1_) Y hl (lpl hw e)
    have KX0 := fun (v : St) (e : w = .inr v) => KX0 v (lpr hw e)
    unfold f_X8_createPart_l87 at h
    refine lv_iload X.1 X.2.1 (dk T_X8_createPart 46 rfl) (lv_at hl 9 rfl) ?_
    refine lv_aload_n X.1 X.2.1 (dk T_X8_createPart 47 rfl) rfl (lv_at hl 0 rfl) ?_
    refine lv_iload_n X.1 X.2.1 (dk T_X8_createPart 48 rfl) rfl (lv_at hl 1 rfl) ?_
    refine lv_iload X.1 X.2.1 (dk T_X8_createPart 49 rfl) (lv_at hl 5 rfl) ?_
    obtain ⟨q9, hq9, h⟩ := bs h
    refine gvI (rest := [.int (z.1)]) X Y (c_X8_rowsAfter t0 hk0 x1 x5 z.2 hq9) cb_X8_82 hk0 hl.1 rfl rfl (Nat.le_of_ble_eq_true rfl) ⟨Nat.le_of_ble_eq_true rfl, Nat.le_of_ble_eq_true rfl⟩ (dk T_X8_createPart 50 rfl) (fun H locs Y => ?_)
    refine lv_icmp_ge (tgt := 158) X.1 X.2.1 (dk T_X8_createPart 51 rfl) rfl (fun c10 => ?_) (fun c10 => ?_)
    · replace h := ipos c10 h
      exact KX0 z.2 (Option.some.inj h).symm _ _ _ Y (lv_sub hl [0, 1, 6] rfl)
    · replace h := ineg c10 h
      refine lv_iconst (v := 0) X.1 X.2.1 (dk T_X8_createPart 52 rfl) ic_0 ?_
      refine lv_istore (lv' := [(10, .int (0)), (0, .ref (g.2.2 (t0))), (1, .int (x1)), (2, .int (x2)), (3, .int (x3)), (4, .int (x4)), (5, .int (x5)), (6, .int (x6)), (7, .int (x7)), (8, .int (x8)), (9, .int (z.1))]) X.1 X.2.1 (dk T_X8_createPart 53 rfl) hl (Nat.le_of_ble_eq_true rfl) rfl (fun ls hl => ?_)
      obtain ⟨q16, hq16, h⟩ := bs h
      refine w_X8_createPart_l102 X t0 hk0 x1 x2 x3 x4 x5 x6 x7 x8 z.1 σ (fun v e H locs ls Y hl => ?_) FU (0, z.2) Y (lv_sub hl [1, 2, 3, 4, 5, 6, 7, 8, 9, 10, 0] rfl) hq16
      · obtain rfl := e
        refine lv_iinc (v := z.1 + 1) (lv' := [(9, .int (z.1 + 1)), (0, .ref (g.2.2 (t0))), (1, .int (x1)), (2, .int (x2)), (3, .int (x3)), (4, .int (x4)), (5, .int (x5)), (6, .int (x6)), (7, .int (x7)), (8, .int (x8))]) X.1 X.2.1 (dk T_X8_createPart 80 rfl) hl (k := 9) rfl (icx ic_1) (Nat.le_of_ble_eq_true rfl) rfl (fun ls hl => ?_)
        refine lv_goto (tgt := 87) X.1 X.2.1 (dk T_X8_createPart 81 rfl) rfl ?_
        exact KB (z.1 + 1) q16 (Option.some.inj h).symm _ _ _ Y (lv_sub hl [1, 2, 3, 4, 5, 6, 7, 8, 9, 0] rfl)
def f_X8_createPart_0 (t0 : Nat) (x1 : Int32) (x2 : Int32) (x3 : Int32) (x4 : Int32) (x5 : Int32) (σ : St) : Option (Int32 × St) :=
  (f_X9_append (t0 + 5) σ).bind fun q1 => (f_X9_set (t0 + 5) q1.1 0 x1 q1.2).bind fun q2 => (f_X9_set (t0 + 5) q1.1 1 x2 q2).bind fun q3 => (f_X9_set (t0 + 5) q1.1 2 x3 q3).bind fun q4 => (f_X9_set (t0 + 5) q1.1 3 x4 q4).bind fun q5 => (f_X9_set (t0 + 5) q1.1 4 x5 q5).bind fun q6 => (f_X8_columnsAfter t0 x1 x5 q6).bind fun q7 => (f_X8_coveredAfter t0 x1 x5 q6).bind fun q8 => (lp (f_X8_createPart_l87 t0 x1 x2 x3 x4 x5 q1.1 q7 q8) FU (0, q6)).bind fun q17 => (f_X9_get (t0 + 3) x1 4 q17).bind fun q18 => (f_X9_set (t0 + 3) x1 4 (q18 - 1) q17).bind fun q19 => some (q1.1, q19)
set_option maxHeartbeats 4000000 in
set_option maxRecDepth 100000 in
theorem w_X8_createPart_0 (X : Cx g RX8 cX8_createPart 11 (some .int) p s m args meth c) (t0 : Nat) (hk0 : kd t0 = 9) (x1 : Int32) (x2 : Int32) (x3 : Int32) (x4 : Int32) (x5 : Int32) (σ : St) {w : Int32 × St} (KR : ∀ (H : Heap) (locs : List Loc) (ls : Array Slot) (pc : Nat), Wd g s w.2 H locs → decode cX8_createPart pc = .ok (.ireturn, 1) → W p l e (rmm 2 47) s m args below meth c H locs 0 0 Q (F0 m pc ls [.int (w.1)])) {H : Heap} {locs : List Loc} {ls : Array Slot} (Y : Wd g s σ H locs) (hl : lv_has ls 11 [(0, .ref (g.2.2 (t0))), (1, .int (x1)), (2, .int (x2)), (3, .int (x3)), (4, .int (x4)), (5, .int (x5))]) (h : f_X8_createPart_0 t0 x1 x2 x3 x4 x5 σ = some w) : W p l e (rmm 2 47) s m args below meth c H locs 0 0 Q (F0 m 0 ls []) := by
  unfold f_X8_createPart_0 at h
  refine lv_aload_n X.1 X.2.1 (dk T_X8_createPart 0 rfl) rfl (lv_at hl 0 rfl) ?_
  refine gg X Y fl_X8_23 hk0 rfl (dk T_X8_createPart 1 rfl) ?_
  obtain ⟨q1, hq1, h⟩ := bs h
  refine gvI (rest := []) X Y (c_X9_append (t0 + 5) (ks5 hk0) σ hq1) cb_X8_54 (ks5 hk0) hl.1 rfl rfl (Nat.le_of_ble_eq_true rfl) ⟨Nat.le_of_ble_eq_true rfl, Nat.le_of_ble_eq_true rfl⟩ (dk T_X8_createPart 2 rfl) (fun H locs Y => ?_)
  refine lv_istore (lv' := [(6, .int (q1.1)), (0, .ref (g.2.2 (t0))), (1, .int (x1)), (2, .int (x2)), (3, .int (x3)), (4, .int (x4)), (5, .int (x5))]) X.1 X.2.1 (dk T_X8_createPart 3 rfl) hl (Nat.le_of_ble_eq_true rfl) rfl (fun ls hl => ?_)
  refine lv_aload_n X.1 X.2.1 (dk T_X8_createPart 4 rfl) rfl (lv_at hl 1 rfl) ?_
  refine gg X Y fl_X8_23 hk0 rfl (dk T_X8_createPart 5 rfl) ?_
  refine lv_iload X.1 X.2.1 (dk T_X8_createPart 6 rfl) (lv_at hl 0 rfl) ?_
  refine lv_iconst (v := 0) X.1 X.2.1 (dk T_X8_createPart 7 rfl) ic_0 ?_
  refine lv_iload_n X.1 X.2.1 (dk T_X8_createPart 8 rfl) rfl (lv_at hl 2 rfl) ?_
  obtain ⟨q2, hq2, h⟩ := bs h
  refine gvV (rest := []) X Y (c_X9_set (t0 + 5) (ks5 hk0) q1.1 0 x1 q1.2 hq2) cb_X8_41 (ks5 hk0) hl.1 rfl rfl (Nat.le_of_ble_eq_true rfl) ⟨Nat.le_of_ble_eq_true rfl, Nat.le_of_ble_eq_true rfl⟩ (dk T_X8_createPart 9 rfl) (fun H locs Y => ?_)
  refine lv_aload_n X.1 X.2.1 (dk T_X8_createPart 10 rfl) rfl (lv_at hl 1 rfl) ?_
  refine gg X Y fl_X8_23 hk0 rfl (dk T_X8_createPart 11 rfl) ?_
  refine lv_iload X.1 X.2.1 (dk T_X8_createPart 12 rfl) (lv_at hl 0 rfl) ?_
  refine lv_iconst (v := 1) X.1 X.2.1 (dk T_X8_createPart 13 rfl) ic_1 ?_
  refine lv_iload_n X.1 X.2.1 (dk T_X8_createPart 14 rfl) rfl (lv_at hl 3 rfl) ?_
  obtain ⟨q3, hq3, h⟩ := bs h
  refine gvV (rest := []) X Y (c_X9_set (t0 + 5) (ks5 hk0) q1.1 1 x2 q2 hq3) cb_X8_41 (ks5 hk0) hl.1 rfl rfl (Nat.le_of_ble_eq_true rfl) ⟨Nat.le_of_ble_eq_true rfl, Nat.le_of_ble_eq_true rfl⟩ (dk T_X8_createPart 15 rfl) (fun H locs Y => ?_)
  refine lv_aload_n X.1 X.2.1 (dk T_X8_createPart 16 rfl) rfl (lv_at hl 1 rfl) ?_
  refine gg X Y fl_X8_23 hk0 rfl (dk T_X8_createPart 17 rfl) ?_
  refine lv_iload X.1 X.2.1 (dk T_X8_createPart 18 rfl) (lv_at hl 0 rfl) ?_
  refine lv_iconst (v := 2) X.1 X.2.1 (dk T_X8_createPart 19 rfl) ic_2 ?_
  refine lv_iload_n X.1 X.2.1 (dk T_X8_createPart 20 rfl) rfl (lv_at hl 4 rfl) ?_
  obtain ⟨q4, hq4, h⟩ := bs h
  refine gvV (rest := []) X Y (c_X9_set (t0 + 5) (ks5 hk0) q1.1 2 x3 q3 hq4) cb_X8_41 (ks5 hk0) hl.1 rfl rfl (Nat.le_of_ble_eq_true rfl) ⟨Nat.le_of_ble_eq_true rfl, Nat.le_of_ble_eq_true rfl⟩ (dk T_X8_createPart 21 rfl) (fun H locs Y => ?_)
  refine lv_aload_n X.1 X.2.1 (dk T_X8_createPart 22 rfl) rfl (lv_at hl 1 rfl) ?_
  refine gg X Y fl_X8_23 hk0 rfl (dk T_X8_createPart 23 rfl) ?_
  refine lv_iload X.1 X.2.1 (dk T_X8_createPart 24 rfl) (lv_at hl 0 rfl) ?_
  refine lv_iconst (v := 3) X.1 X.2.1 (dk T_X8_createPart 25 rfl) ic_3 ?_
  refine lv_iload X.1 X.2.1 (dk T_X8_createPart 26 rfl) (lv_at hl 5 rfl) ?_
  obtain ⟨q5, hq5, h⟩ := bs h
  refine gvV (rest := []) X Y (c_X9_set (t0 + 5) (ks5 hk0) q1.1 3 x4 q4 hq5) cb_X8_41 (ks5 hk0) hl.1 rfl rfl (Nat.le_of_ble_eq_true rfl) ⟨Nat.le_of_ble_eq_true rfl, Nat.le_of_ble_eq_true rfl⟩ (dk T_X8_createPart 27 rfl) (fun H locs Y => ?_)
  refine lv_aload_n X.1 X.2.1 (dk T_X8_createPart 28 rfl) rfl (lv_at hl 1 rfl) ?_
  refine gg X Y fl_X8_23 hk0 rfl (dk T_X8_createPart 29 rfl) ?_
  refine lv_iload X.1 X.2.1 (dk T_X8_createPart 30 rfl) (lv_at hl 0 rfl) ?_
  refine lv_iconst (v := 4) X.1 X.2.1 (dk T_X8_createPart 31 rfl) ic_4 ?_
  refine lv_iload X.1 X.2.1 (dk T_X8_createPart 32 rfl) (lv_at hl 6 rfl) ?_
  obtain ⟨q6, hq6, h⟩ := bs h
  refine gvV (rest := []) X Y (c_X9_set (t0 + 5) (ks5 hk0) q1.1 4 x5 q5 hq6) cb_X8_41 (ks5 hk0) hl.1 rfl rfl (Nat.le_of_ble_eq_true rfl) ⟨Nat.le_of_ble_eq_true rfl, Nat.le_of_ble_eq_true rfl⟩ (dk T_X8_createPart 33 rfl) (fun H locs Y => ?_)
  refine lv_aload_n X.1 X.2.1 (dk T_X8_createPart 34 rfl) rfl (lv_at hl 1 rfl) ?_
  refine lv_iload_n X.1 X.2.1 (dk T_X8_createPart 35 rfl) rfl (lv_at hl 2 rfl) ?_
  refine lv_iload X.1 X.2.1 (dk T_X8_createPart 36 rfl) (lv_at hl 6 rfl) ?_
  obtain ⟨q7, hq7, h⟩ := bs h
  refine gvI (rest := []) X Y (c_X8_columnsAfter t0 hk0 x1 x5 q6 hq7) cb_X8_76 hk0 hl.1 rfl rfl (Nat.le_of_ble_eq_true rfl) ⟨Nat.le_of_ble_eq_true rfl, Nat.le_of_ble_eq_true rfl⟩ (dk T_X8_createPart 37 rfl) (fun H locs Y => ?_)
  refine lv_istore (lv' := [(7, .int (q7)), (6, .int (q1.1)), (0, .ref (g.2.2 (t0))), (1, .int (x1)), (2, .int (x2)), (3, .int (x3)), (4, .int (x4)), (5, .int (x5))]) X.1 X.2.1 (dk T_X8_createPart 38 rfl) hl (Nat.le_of_ble_eq_true rfl) rfl (fun ls hl => ?_)
  refine lv_aload_n X.1 X.2.1 (dk T_X8_createPart 39 rfl) rfl (lv_at hl 2 rfl) ?_
  refine lv_iload_n X.1 X.2.1 (dk T_X8_createPart 40 rfl) rfl (lv_at hl 3 rfl) ?_
  refine lv_iload X.1 X.2.1 (dk T_X8_createPart 41 rfl) (lv_at hl 7 rfl) ?_
  obtain ⟨q8, hq8, h⟩ := bs h
  refine gvI (rest := []) X Y (c_X8_coveredAfter t0 hk0 x1 x5 q6 hq8) cb_X8_79 hk0 hl.1 rfl rfl (Nat.le_of_ble_eq_true rfl) ⟨Nat.le_of_ble_eq_true rfl, Nat.le_of_ble_eq_true rfl⟩ (dk T_X8_createPart 42 rfl) (fun H locs Y => ?_)
  refine lv_istore (lv' := [(8, .int (q8)), (7, .int (q7)), (6, .int (q1.1)), (0, .ref (g.2.2 (t0))), (1, .int (x1)), (2, .int (x2)), (3, .int (x3)), (4, .int (x4)), (5, .int (x5))]) X.1 X.2.1 (dk T_X8_createPart 43 rfl) hl (Nat.le_of_ble_eq_true rfl) rfl (fun ls hl => ?_)
  refine lv_iconst (v := 0) X.1 X.2.1 (dk T_X8_createPart 44 rfl) ic_0 ?_
  refine lv_istore (lv' := [(9, .int (0)), (8, .int (q8)), (7, .int (q7)), (6, .int (q1.1)), (0, .ref (g.2.2 (t0))), (1, .int (x1)), (2, .int (x2)), (3, .int (x3)), (4, .int (x4)), (5, .int (x5))]) X.1 X.2.1 (dk T_X8_createPart 45 rfl) hl (Nat.le_of_ble_eq_true rfl) rfl (fun ls hl => ?_)
  obtain ⟨q17, hq17, h⟩ := bs h
  refine w_X8_createPart_l87 X t0 hk0 x1 x2 x3 x4 x5 q1.1 q7 q8 σ (fun v e H locs ls Y hl => ?_) FU (0, q6) Y (lv_sub hl [4, 5, 6, 7, 8, 9, 3, 2, 1, 0] rfl) hq17
  · obtain rfl := e
    refine lv_aload_n X.1 X.2.1 (dk T_X8_createPart 82 rfl) rfl (lv_at hl 0 rfl) ?_
    refine gg X Y fl_X8_20 hk0 rfl (dk T_X8_createPart 83 rfl) ?_
    refine lv_iload_n X.1 X.2.1 (dk T_X8_createPart 84 rfl) rfl (lv_at hl 1 rfl) ?_
    refine lv_iconst (v := 4) X.1 X.2.1 (dk T_X8_createPart 85 rfl) ic_4 ?_
    refine lv_aload_n X.1 X.2.1 (dk T_X8_createPart 86 rfl) rfl (lv_at hl 0 rfl) ?_
    refine gg X Y fl_X8_20 hk0 rfl (dk T_X8_createPart 87 rfl) ?_
    refine lv_iload_n X.1 X.2.1 (dk T_X8_createPart 88 rfl) rfl (lv_at hl 1 rfl) ?_
    refine lv_iconst (v := 4) X.1 X.2.1 (dk T_X8_createPart 89 rfl) ic_4 ?_
    obtain ⟨q18, hq18, h⟩ := bs h
    refine gvI (rest := [.int (4), .int (x1), .ref (g.2.2 ((t0 + 3)))]) X Y (c_X9_get (t0 + 3) (ks3 hk0) x1 4 q17 hq18) cb_X8_30 (ks3 hk0) hl.1 rfl rfl (Nat.le_of_ble_eq_true rfl) ⟨Nat.le_of_ble_eq_true rfl, Nat.le_of_ble_eq_true rfl⟩ (dk T_X8_createPart 90 rfl) (fun H locs Y => ?_)
    refine lv_iconst (v := 1) X.1 X.2.1 (dk T_X8_createPart 91 rfl) ic_1 ?_
    refine lv_isub X.1 X.2.1 (dk T_X8_createPart 92 rfl) ?_
    obtain ⟨q19, hq19, h⟩ := bs h
    refine gvV (rest := []) X Y (c_X9_set (t0 + 3) (ks3 hk0) x1 4 (q18 - 1) q17 hq19) cb_X8_41 (ks3 hk0) hl.1 rfl rfl (Nat.le_of_ble_eq_true rfl) ⟨Nat.le_of_ble_eq_true rfl, Nat.le_of_ble_eq_true rfl⟩ (dk T_X8_createPart 93 rfl) (fun H locs Y => ?_)
    refine lv_iload X.1 X.2.1 (dk T_X8_createPart 94 rfl) (lv_at hl 2 rfl) ?_
    obtain rfl := Option.some.inj h
    exact KR _ _ _ _ Y (dk T_X8_createPart 95 rfl)
def f_X8_createPart (t0 : Nat) (x1 : Int32) (x2 : Int32) (x3 : Int32) (x4 : Int32) (x5 : Int32) (σ : St) : Option (Int32 × St) := f_X8_createPart_0 t0 x1 x2 x3 x4 x5 σ
set_option maxHeartbeats 4000000 in
set_option maxRecDepth 100000 in
theorem c_X8_createPart {l : Launch} {g : Geo} (t0 : Nat) (hk0 : kd t0 = 9) (x1 : Int32) (x2 : Int32) (x3 : Int32) (x4 : Int32) (x5 : Int32) (σ : St) {w : Int32 × St} (h : f_X8_createPart t0 x1 x2 x3 x4 x5 σ = some w) : CtI l yX8_createPart cX8_createPart 11 (some .int) (rmm 2 47) g [.ref (g.2.2 (t0)), .int (x1), .int (x2), .int (x3), .int (x4), .int (x5)] σ w.1 w.2 := enI .int (by decide) rfl rfl (Nat.le_of_ble_eq_true rfl) (fun p e s m args below meth c Q X Y ls hl KR => w_X8_createPart_0 X t0 hk0 x1 x2 x3 x4 x5 σ KR Y hl h)
def I_X8_removePart : List (Nat × Instr × Nat) := [(0, .aload_n 0, 1), (1, .getfield 23, 3), (4, .iload_n 1, 1), (5, .iconst 0, 1), (6, .invokevirtual 30, 3), (9, .istore_n 2, 1), (10, .aload_n 0, 1), (11, .getfield 20, 3), (14, .iload_n 2, 1), (15, .iconst 4, 1), (16, .bipush 99, 2), (18, .aload_n 0, 1), (19, .getfield 20, 3), (22, .iload_n 2, 1), (23, .iconst 4, 1), (24, .invokevirtual 30, 3), (27, .iconst 1, 1), (28, .iadd, 1), (29, .invokestatic 89, 3), (32, .invokevirtual 41, 3), (35, .aload_n 0, 1), (36, .getfield 23, 3), (39, .iload_n 1, 1), (40, .invokevirtual 94, 3), (43, .iconst 0, 1), (44, .istore_n 3, 1), (45, .iload_n 3, 1), (46, .aload_n 0, 1), (47, .getfield 14, 3), (50, .invokevirtual 98, 3), (53, .if_icmp .ge 71, 3), (56, .iconst 0, 1), (57, .istore 4, 2), (59, .iload 4, 2), (61, .aload_n 0, 1), (62, .iload_n 3, 1), (63, .invokevirtual 45, 3), (66, .if_icmp .ge 52, 3), (69, .aload_n 0, 1), (70, .iload_n 3, 1), (71, .iload 4, 2), (73, .invokevirtual 48, 3), (76, .istore 5, 2), (78, .iload 5, 2), (80, .iload_n 1, 1), (81, .if_icmp .ne 14, 3), (84, .aload_n 0, 1), (85, .iload_n 3, 1), (86, .iload 4, 2), (88, .iconst (-1), 1), (89, .invokevirtual 58, 3), (92, .goto 20, 3), (95, .iload 5, 2), (97, .iload_n 1, 1), (98, .if_icmp .le 14, 3), (101, .aload_n 0, 1), (102, .iload_n 3, 1), (103, .iload 4, 2), (105, .iload 5, 2), (107, .iconst 1, 1), (108, .isub, 1), (109, .invokevirtual 58, 3), (112, .iinc 4 1, 3), (115, .goto (-56), 3), (118, .iinc 3 1, 3), (121, .goto (-76), 3), (124, .return_, 1)]
set_option maxRecDepth 100000 in
theorem T_X8_removePart : ∀ q ∈ I_X8_removePart, decode cX8_removePart q.1 = .ok (q.2.1, q.2.2) := by decide +kernel
def f_X8_removePart_j112 (t0 : Nat) (x1 : Int32) (x3 : Int32) (x4 : Int32) (σ : St) : Option ((Int32 × St) ⊕ (St)) :=
  some (.inl (x4 + 1, σ))
set_option maxHeartbeats 4000000 in
set_option maxRecDepth 100000 in
theorem w_X8_removePart_j112 (X : Cx g RX8 cX8_removePart 6 none p s m args meth c) (t0 : Nat) (hk0 : kd t0 = 9) (x1 : Int32) (x3 : Int32) (x4 : Int32) (σ : St) {w : (Int32 × St) ⊕ (St)} (KB : ∀ (v0_ : Int32) (v1_ : St), w = .inl (v0_, v1_) → ∀ (H : Heap) (locs : List Loc) (ls : Array Slot), Wd g s v1_ H locs → lv_has ls 6 [(0, .ref (g.2.2 (t0))), (1, .int (x1)), (3, .int (x3)), (4, .int (v0_))] → W p l e (rmm 3 65) s m args below meth c H locs 0 0 Q (F0 m 59 ls [])) (KX0 : ∀ (v : St), w = .inr v → ∀ (H : Heap) (locs : List Loc) (ls : Array Slot), Wd g s v H locs → lv_has ls 6 [(0, .ref (g.2.2 (t0))), (1, .int (x1)), (3, .int (x3))] → W p l e (rmm 3 65) s m args below meth c H locs 0 0 Q (F0 m 118 ls [])) {H : Heap} {locs : List Loc} {ls : Array Slot} (Y : Wd g s σ H locs) (hl : lv_has ls 6 [(0, .ref (g.2.2 (t0))), (1, .int (x1)), (3, .int (x3)), (4, .int (x4))]) (h : f_X8_removePart_j112 t0 x1 x3 x4 σ = some w) : W p l e (rmm 3 65) s m args below meth c H locs 0 0 Q (F0 m 112 ls []) := by
  unfold f_X8_removePart_j112 at h
  refine lv_iinc (v := x4 + 1) (lv' := [(4, .int (x4 + 1)), (0, .ref (g.2.2 (t0))), (1, .int (x1)), (3, .int (x3))]) X.1 X.2.1 (dk T_X8_removePart 62 rfl) hl (k := 3) rfl (icx ic_1) (Nat.le_of_ble_eq_true rfl) rfl (fun ls hl => ?_)
  refine lv_goto (tgt := 59) X.1 X.2.1 (dk T_X8_removePart 63 rfl) rfl ?_
  exact KB (x4 + 1) σ (Option.some.inj h).symm _ _ _ Y (lv_sub hl [1, 2, 3, 0] rfl)
def f_X8_removePart_l59 (t0 : Nat) (x1 : Int32) (x3 : Int32) (z : Int32 × St) : Option ((Int32 × St) ⊕ (St)) :=
  (f_X8_cellsOf t0 x3 z.2).bind fun q8 => if q8 ≤ z.1 then some (.inr z.2) else (f_X8_onCell t0 x3 z.1 z.2).bind fun q10 => if q10 = x1 then (f_X8_setCell t0 x3 z.1 (-1) z.2).bind fun q14 => f_X8_removePart_j112 t0 x1 x3 z.1 q14 else if q10 ≤ x1 then f_X8_removePart_j112 t0 x1 x3 z.1 z.2 else (f_X8_setCell t0 x3 z.1 (q10 - 1) z.2).bind fun q13 => f_X8_removePart_j112 t0 x1 x3 z.1 q13
set_option maxHeartbeats 4000000 in
set_option maxRecDepth 100000 in
theorem w_X8_removePart_l59 (X : Cx g RX8 cX8_removePart 6 none p s m args meth c) (t0 : Nat) (hk0 : kd t0 = 9) (x1 : Int32) (x3 : Int32) (σ : St) {r : St} (KX0 : ∀ (v : St), r = v → ∀ (H : Heap) (locs : List Loc) (ls : Array Slot), Wd g s v H locs → lv_has ls 6 [(0, .ref (g.2.2 (t0))), (1, .int (x1)), (3, .int (x3))] → W p l e (rmm 3 65) s m args below meth c H locs 0 0 Q (F0 m 118 ls [])) : ∀ (n : Nat) (z : Int32 × St) {H : Heap} {locs : List Loc} {ls : Array Slot}, Wd g s z.2 H locs → lv_has ls 6 [(0, .ref (g.2.2 (t0))), (1, .int (x1)), (3, .int (x3)), (4, .int (z.1))] → lp (f_X8_removePart_l59 t0 x1 x3) n z = some r → W p l e (rmm 3 65) s m args below meth c H locs 0 0 Q (F0 m 59 ls []) := by
  intro n
  induction n with
  | zero => intro z H locs ls Y hl h; cases h
  | succ n ih =>
    intro z H locs ls Y hl h
    obtain ⟨w, h, hw⟩ := lps h
    have KB : ∀ (v0_ : Int32) (v1_ : St), w = .inl (v0_, v1_) → ∀ (H : Heap) (locs : List Loc) (ls : Array Slot), Wd g s v1_ H locs → lv_has ls 6 [(0, .ref (g.2.2 (t0))), (1, .int (x1)), (3, .int (x3)), (4, .int (v0_))] → W p l e (rmm 3 65) s m args below meth c H locs 0 0 Q (F0 m 59 ls []) := fun v0_ v1_ e H locs ls Y hl => ih (v0_, v1_) Y hl (lpl hw e)
    have KX0 := fun (v : St) (e : w = .inr v) => KX0 v (lpr hw e)
    unfold f_X8_removePart_l59 at h
    refine lv_iload X.1 X.2.1 (dk T_X8_removePart 33 rfl) (lv_at hl 3 rfl) ?_
    refine lv_aload_n X.1 X.2.1 (dk T_X8_removePart 34 rfl) rfl (lv_at hl 0 rfl) ?_
    refine lv_iload_n X.1 X.2.1 (dk T_X8_removePart 35 rfl) rfl (lv_at hl 2 rfl) ?_
    obtain ⟨q8, hq8, h⟩ := bs h
    refine gvI (rest := [.int (z.1)]) X Y (c_X8_cellsOf t0 hk0 x3 z.2 hq8) cb_X8_45 hk0 hl.1 rfl rfl (Nat.le_of_ble_eq_true rfl) ⟨Nat.le_of_ble_eq_true rfl, Nat.le_of_ble_eq_true rfl⟩ (dk T_X8_removePart 36 rfl) (fun H locs Y => ?_)
    refine lv_icmp_ge (tgt := 118) X.1 X.2.1 (dk T_X8_removePart 37 rfl) rfl (fun c9 => ?_) (fun c9 => ?_)
    · replace h := ipos c9 h
      exact KX0 z.2 (Option.some.inj h).symm _ _ _ Y (lv_sub hl [0, 1, 2] rfl)
    · replace h := ineg c9 h
      refine lv_aload_n X.1 X.2.1 (dk T_X8_removePart 38 rfl) rfl (lv_at hl 0 rfl) ?_
      refine lv_iload_n X.1 X.2.1 (dk T_X8_removePart 39 rfl) rfl (lv_at hl 2 rfl) ?_
      refine lv_iload X.1 X.2.1 (dk T_X8_removePart 40 rfl) (lv_at hl 3 rfl) ?_
      obtain ⟨q10, hq10, h⟩ := bs h
      refine gvI (rest := []) X Y (c_X8_onCell t0 hk0 x3 z.1 z.2 hq10) cb_X8_48 hk0 hl.1 rfl rfl (Nat.le_of_ble_eq_true rfl) ⟨Nat.le_of_ble_eq_true rfl, Nat.le_of_ble_eq_true rfl⟩ (dk T_X8_removePart 41 rfl) (fun H locs Y => ?_)
      refine lv_istore (lv' := [(5, .int (q10)), (0, .ref (g.2.2 (t0))), (1, .int (x1)), (3, .int (x3)), (4, .int (z.1))]) X.1 X.2.1 (dk T_X8_removePart 42 rfl) hl (Nat.le_of_ble_eq_true rfl) rfl (fun ls hl => ?_)
      refine lv_iload X.1 X.2.1 (dk T_X8_removePart 43 rfl) (lv_at hl 0 rfl) ?_
      refine lv_iload_n X.1 X.2.1 (dk T_X8_removePart 44 rfl) rfl (lv_at hl 2 rfl) ?_
      refine lv_icmp_ne (tgt := 95) X.1 X.2.1 (dk T_X8_removePart 45 rfl) rfl (fun c11 => ?_) (fun c11 => ?_)
      · replace h := ineg c11 h
        refine lv_iload X.1 X.2.1 (dk T_X8_removePart 52 rfl) (lv_at hl 0 rfl) ?_
        refine lv_iload_n X.1 X.2.1 (dk T_X8_removePart 53 rfl) rfl (lv_at hl 2 rfl) ?_
        refine lv_icmp_le (tgt := 112) X.1 X.2.1 (dk T_X8_removePart 54 rfl) rfl (fun c12 => ?_) (fun c12 => ?_)
        · replace h := ipos c12 h
          exact w_X8_removePart_j112 X t0 hk0 x1 x3 z.1 z.2 KB KX0 Y (lv_sub hl [1, 2, 3, 4] rfl) h
        · replace h := ineg c12 h
          refine lv_aload_n X.1 X.2.1 (dk T_X8_removePart 55 rfl) rfl (lv_at hl 1 rfl) ?_
          refine lv_iload_n X.1 X.2.1 (dk T_X8_removePart 56 rfl) rfl (lv_at hl 3 rfl) ?_
          refine lv_iload X.1 X.2.1 (dk T_X8_removePart 57 rfl) (lv_at hl 4 rfl) ?_
          refine lv_iload X.1 X.2.1 (dk T_X8_removePart 58 rfl) (lv_at hl 0 rfl) ?_
          refine lv_iconst (v := 1) X.1 X.2.1 (dk T_X8_removePart 59 rfl) ic_1 ?_
          refine lv_isub X.1 X.2.1 (dk T_X8_removePart 60 rfl) ?_
          obtain ⟨q13, hq13, h⟩ := bs h
          refine gvV (rest := []) X Y (c_X8_setCell t0 hk0 x3 z.1 (q10 - 1) z.2 hq13) cb_X8_58 hk0 hl.1 rfl rfl (Nat.le_of_ble_eq_true rfl) ⟨Nat.le_of_ble_eq_true rfl, Nat.le_of_ble_eq_true rfl⟩ (dk T_X8_removePart 61 rfl) (fun H locs Y => ?_)
          exact w_X8_removePart_j112 X t0 hk0 x1 x3 z.1 q13 KB KX0 Y (lv_sub hl [1, 2, 3, 4] rfl) h
      · replace h := ipos c11 h
        refine lv_aload_n X.1 X.2.1 (dk T_X8_removePart 46 rfl) rfl (lv_at hl 1 rfl) ?_
        refine lv_iload_n X.1 X.2.1 (dk T_X8_removePart 47 rfl) rfl (lv_at hl 3 rfl) ?_
        refine lv_iload X.1 X.2.1 (dk T_X8_removePart 48 rfl) (lv_at hl 4 rfl) ?_
        refine lv_iconst (v := (-1)) X.1 X.2.1 (dk T_X8_removePart 49 rfl) ic_m1 ?_
        obtain ⟨q14, hq14, h⟩ := bs h
        refine gvV (rest := []) X Y (c_X8_setCell t0 hk0 x3 z.1 (-1) z.2 hq14) cb_X8_58 hk0 hl.1 rfl rfl (Nat.le_of_ble_eq_true rfl) ⟨Nat.le_of_ble_eq_true rfl, Nat.le_of_ble_eq_true rfl⟩ (dk T_X8_removePart 50 rfl) (fun H locs Y => ?_)
        refine lv_goto (tgt := 112) X.1 X.2.1 (dk T_X8_removePart 51 rfl) rfl ?_
        exact w_X8_removePart_j112 X t0 hk0 x1 x3 z.1 q14 KB KX0 Y (lv_sub hl [1, 2, 3, 4] rfl) h
def f_X8_removePart_l45 (t0 : Nat) (x1 : Int32) (z : Int32 × St) : Option ((Int32 × St) ⊕ (St)) :=
  (f_X9_size (t0 + 1) z.2).bind fun q6 => if q6 ≤ z.1 then some (.inr z.2) else (lp (f_X8_removePart_l59 t0 x1 z.1) FU (0, z.2)).bind fun q15 => some (.inl (z.1 + 1, q15))
set_option maxHeartbeats 4000000 in
set_option maxRecDepth 100000 in
theorem w_X8_removePart_l45 (X : Cx g RX8 cX8_removePart 6 none p s m args meth c) (t0 : Nat) (hk0 : kd t0 = 9) (x1 : Int32) (σ : St) {r : St} (KX0 : ∀ (v : St), r = v → ∀ (H : Heap) (locs : List Loc) (ls : Array Slot), Wd g s v H locs → lv_has ls 6 [] → W p l e (rmm 3 65) s m args below meth c H locs 0 0 Q (F0 m 124 ls [])) : ∀ (n : Nat) (z : Int32 × St) {H : Heap} {locs : List Loc} {ls : Array Slot}, Wd g s z.2 H locs → lv_has ls 6 [(0, .ref (g.2.2 (t0))), (1, .int (x1)), (3, .int (z.1))] → lp (f_X8_removePart_l45 t0 x1) n z = some r → W p l e (rmm 3 65) s m args below meth c H locs 0 0 Q (F0 m 45 ls []) := by
  intro n
  induction n with
  | zero => intro z H locs ls Y hl h; cases h
  | succ n ih =>
    intro z H locs ls Y hl h
    obtain ⟨w, h, hw⟩ := lps h
    have KB : ∀ (v0_ : Int32) (v1_ : St), w = .inl (v0_, v1_) → ∀ (H : Heap) (locs : List Loc) (ls : Array Slot), Wd g s v1_ H locs → lv_has ls 6 [(0, .ref (g.2.2 (t0))), (1, .int (x1)), (3, .int (v0_))] → W p l e (rmm 3 65) s m args below meth c H locs 0 0 Q (F0 m 45 ls []) := fun v0_ v1_ e H locs ls Y hl => ih (v0_, v1_) Y hl (lpl hw e)
    have KX0 := fun (v : St) (e : w = .inr v) => KX0 v (lpr hw e)
    unfold f_X8_removePart_l45 at h
    refine lv_iload_n X.1 X.2.1 (dk T_X8_removePart 26 rfl) rfl (lv_at hl 2 rfl) ?_
    refine lv_aload_n X.1 X.2.1 (dk T_X8_removePart 27 rfl) rfl (lv_at hl 0 rfl) ?_
    refine gg X Y fl_X8_14 hk0 rfl (dk T_X8_removePart 28 rfl) ?_
    obtain ⟨q6, hq6, h⟩ := bs h
    refine gvI (rest := [.int (z.1)]) X Y (c_X9_size (t0 + 1) (ks1 hk0) z.2 hq6) cb_X8_98 (ks1 hk0) hl.1 rfl rfl (Nat.le_of_ble_eq_true rfl) ⟨Nat.le_of_ble_eq_true rfl, Nat.le_of_ble_eq_true rfl⟩ (dk T_X8_removePart 29 rfl) (fun H locs Y => ?_)
    refine lv_icmp_ge (tgt := 124) X.1 X.2.1 (dk T_X8_removePart 30 rfl) rfl (fun c7 => ?_) (fun c7 => ?_)
    · replace h := ipos c7 h
      exact KX0 z.2 (Option.some.inj h).symm _ _ _ Y (lv_sub hl [] rfl)
    · replace h := ineg c7 h
      refine lv_iconst (v := 0) X.1 X.2.1 (dk T_X8_removePart 31 rfl) ic_0 ?_
      refine lv_istore (lv' := [(4, .int (0)), (0, .ref (g.2.2 (t0))), (1, .int (x1)), (3, .int (z.1))]) X.1 X.2.1 (dk T_X8_removePart 32 rfl) hl (Nat.le_of_ble_eq_true rfl) rfl (fun ls hl => ?_)
      obtain ⟨q15, hq15, h⟩ := bs h
      refine w_X8_removePart_l59 X t0 hk0 x1 z.1 σ (fun v e H locs ls Y hl => ?_) FU (0, z.2) Y (lv_sub hl [1, 2, 3, 0] rfl) hq15
      · obtain rfl := e
        refine lv_iinc (v := z.1 + 1) (lv' := [(3, .int (z.1 + 1)), (0, .ref (g.2.2 (t0))), (1, .int (x1))]) X.1 X.2.1 (dk T_X8_removePart 64 rfl) hl (k := 2) rfl (icx ic_1) (Nat.le_of_ble_eq_true rfl) rfl (fun ls hl => ?_)
        refine lv_goto (tgt := 45) X.1 X.2.1 (dk T_X8_removePart 65 rfl) rfl ?_
        exact KB (z.1 + 1) q15 (Option.some.inj h).symm _ _ _ Y (lv_sub hl [1, 2, 0] rfl)
def f_X8_removePart_0 (t0 : Nat) (x1 : Int32) (σ : St) : Option (St) :=
  (f_X9_get (t0 + 5) x1 0 σ).bind fun q1 => (f_X9_get (t0 + 3) q1 4 σ).bind fun q2 => (f_X9_set (t0 + 3) q1 4 (if (q2 + 1) < 99 then (q2 + 1) else 99) σ).bind fun q4 => (f_X9_remove (t0 + 5) x1 q4).bind fun q5 => (lp (f_X8_removePart_l45 t0 x1) FU (0, q5)).bind fun q16 => some q16
set_option maxHeartbeats 4000000 in
set_option maxRecDepth 100000 in
theorem w_X8_removePart_0 (X : Cx g RX8 cX8_removePart 6 none p s m args meth c) (t0 : Nat) (hk0 : kd t0 = 9) (x1 : Int32) (σ : St) {w : St} (KR : ∀ (H : Heap) (locs : List Loc) (ls : Array Slot) (pc : Nat), Wd g s w H locs → decode cX8_removePart pc = .ok (.return_, 1) → W p l e (rmm 3 65) s m args below meth c H locs 0 0 Q (F0 m pc ls [])) {H : Heap} {locs : List Loc} {ls : Array Slot} (Y : Wd g s σ H locs) (hl : lv_has ls 6 [(0, .ref (g.2.2 (t0))), (1, .int (x1))]) (h : f_X8_removePart_0 t0 x1 σ = some w) : W p l e (rmm 3 65) s m args below meth c H locs 0 0 Q (F0 m 0 ls []) := by
  unfold f_X8_removePart_0 at h
  refine lv_aload_n X.1 X.2.1 (dk T_X8_removePart 0 rfl) rfl (lv_at hl 0 rfl) ?_
  refine gg X Y fl_X8_23 hk0 rfl (dk T_X8_removePart 1 rfl) ?_
  refine lv_iload_n X.1 X.2.1 (dk T_X8_removePart 2 rfl) rfl (lv_at hl 1 rfl) ?_
  refine lv_iconst (v := 0) X.1 X.2.1 (dk T_X8_removePart 3 rfl) ic_0 ?_
  obtain ⟨q1, hq1, h⟩ := bs h
  refine gvI (rest := []) X Y (c_X9_get (t0 + 5) (ks5 hk0) x1 0 σ hq1) cb_X8_30 (ks5 hk0) hl.1 rfl rfl (Nat.le_of_ble_eq_true rfl) ⟨Nat.le_of_ble_eq_true rfl, Nat.le_of_ble_eq_true rfl⟩ (dk T_X8_removePart 4 rfl) (fun H locs Y => ?_)
  refine lv_istore_n (lv' := [(2, .int (q1)), (0, .ref (g.2.2 (t0))), (1, .int (x1))]) X.1 X.2.1 (dk T_X8_removePart 5 rfl) rfl hl (Nat.le_of_ble_eq_true rfl) rfl (fun ls hl => ?_)
  refine lv_aload_n X.1 X.2.1 (dk T_X8_removePart 6 rfl) rfl (lv_at hl 1 rfl) ?_
  refine gg X Y fl_X8_20 hk0 rfl (dk T_X8_removePart 7 rfl) ?_
  refine lv_iload_n X.1 X.2.1 (dk T_X8_removePart 8 rfl) rfl (lv_at hl 0 rfl) ?_
  refine lv_iconst (v := 4) X.1 X.2.1 (dk T_X8_removePart 9 rfl) ic_4 ?_
  refine lv_bipush (v := 99) X.1 X.2.1 (dk T_X8_removePart 10 rfl) bp_99 ?_
  refine lv_aload_n X.1 X.2.1 (dk T_X8_removePart 11 rfl) rfl (lv_at hl 1 rfl) ?_
  refine gg X Y fl_X8_20 hk0 rfl (dk T_X8_removePart 12 rfl) ?_
  refine lv_iload_n X.1 X.2.1 (dk T_X8_removePart 13 rfl) rfl (lv_at hl 0 rfl) ?_
  refine lv_iconst (v := 4) X.1 X.2.1 (dk T_X8_removePart 14 rfl) ic_4 ?_
  obtain ⟨q2, hq2, h⟩ := bs h
  refine gvI (rest := [.int (99), .int (4), .int (q1), .ref (g.2.2 ((t0 + 3)))]) X Y (c_X9_get (t0 + 3) (ks3 hk0) q1 4 σ hq2) cb_X8_30 (ks3 hk0) hl.1 rfl rfl (Nat.le_of_ble_eq_true rfl) ⟨Nat.le_of_ble_eq_true rfl, Nat.le_of_ble_eq_true rfl⟩ (dk T_X8_removePart 15 rfl) (fun H locs Y => ?_)
  refine lv_iconst (v := 1) X.1 X.2.1 (dk T_X8_removePart 16 rfl) ic_1 ?_
  refine lv_iadd X.1 X.2.1 (dk T_X8_removePart 17 rfl) ?_
  refine gm_min X mb_X8_89 hl.1 (Nat.le_of_ble_eq_true rfl) (Nat.le_of_ble_eq_true rfl) (dk T_X8_removePart 18 rfl) ?_
  obtain ⟨q4, hq4, h⟩ := bs h
  refine gvV (rest := []) X Y (c_X9_set (t0 + 3) (ks3 hk0) q1 4 (if (q2 + 1) < 99 then (q2 + 1) else 99) σ hq4) cb_X8_41 (ks3 hk0) hl.1 rfl rfl (Nat.le_of_ble_eq_true rfl) ⟨Nat.le_of_ble_eq_true rfl, Nat.le_of_ble_eq_true rfl⟩ (dk T_X8_removePart 19 rfl) (fun H locs Y => ?_)
  refine lv_aload_n X.1 X.2.1 (dk T_X8_removePart 20 rfl) rfl (lv_at hl 1 rfl) ?_
  refine gg X Y fl_X8_23 hk0 rfl (dk T_X8_removePart 21 rfl) ?_
  refine lv_iload_n X.1 X.2.1 (dk T_X8_removePart 22 rfl) rfl (lv_at hl 2 rfl) ?_
  obtain ⟨q5, hq5, h⟩ := bs h
  refine gvV (rest := []) X Y (c_X9_remove (t0 + 5) (ks5 hk0) x1 q4 hq5) cb_X8_94 (ks5 hk0) hl.1 rfl rfl (Nat.le_of_ble_eq_true rfl) ⟨Nat.le_of_ble_eq_true rfl, Nat.le_of_ble_eq_true rfl⟩ (dk T_X8_removePart 23 rfl) (fun H locs Y => ?_)
  refine lv_iconst (v := 0) X.1 X.2.1 (dk T_X8_removePart 24 rfl) ic_0 ?_
  refine lv_istore_n (lv' := [(3, .int (0)), (2, .int (q1)), (0, .ref (g.2.2 (t0))), (1, .int (x1))]) X.1 X.2.1 (dk T_X8_removePart 25 rfl) rfl hl (Nat.le_of_ble_eq_true rfl) rfl (fun ls hl => ?_)
  obtain ⟨q16, hq16, h⟩ := bs h
  refine w_X8_removePart_l45 X t0 hk0 x1 σ (fun v e H locs ls Y hl => ?_) FU (0, q5) Y (lv_sub hl [2, 3, 0] rfl) hq16
  · obtain rfl := e
    obtain rfl := Option.some.inj h
    exact KR _ _ _ _ Y (dk T_X8_removePart 66 rfl)
def f_X8_removePart (t0 : Nat) (x1 : Int32) (σ : St) : Option (St) := f_X8_removePart_0 t0 x1 σ
set_option maxHeartbeats 4000000 in
set_option maxRecDepth 100000 in
theorem c_X8_removePart {l : Launch} {g : Geo} (t0 : Nat) (hk0 : kd t0 = 9) (x1 : Int32) (σ : St) {w : St} (h : f_X8_removePart t0 x1 σ = some w) : CtV l yX8_removePart cX8_removePart 6 none (rmm 3 65) g [.ref (g.2.2 (t0)), .int (x1)] σ w := enV (by decide) rfl (Nat.le_of_ble_eq_true rfl) (fun p e s m args below meth c Q X Y ls hl KR => w_X8_removePart_0 X t0 hk0 x1 σ KR Y hl h)
def I_X8_lowestCell : List (Nat × Instr × Nat) := [(0, .aload_n 0, 1), (1, .getfield 23, 3), (4, .iload_n 1, 1), (5, .iconst 1, 1), (6, .invokevirtual 30, 3), (9, .istore_n 2, 1), (10, .iconst 0, 1), (11, .istore_n 3, 1), (12, .iload_n 3, 1), (13, .aload_n 0, 1), (14, .iload_n 2, 1), (15, .invokevirtual 45, 3), (18, .if_icmp .ge 21, 3), (21, .aload_n 0, 1), (22, .iload_n 2, 1), (23, .iload_n 3, 1), (24, .invokevirtual 48, 3), (27, .iload_n 1, 1), (28, .if_icmp .ne 5, 3), (31, .iload_n 3, 1), (32, .ireturn, 1), (33, .iinc 3 1, 3), (36, .goto (-24), 3), (39, .iconst (-1), 1), (40, .ireturn, 1)]
set_option maxRecDepth 100000 in
theorem T_X8_lowestCell : ∀ q ∈ I_X8_lowestCell, decode cX8_lowestCell q.1 = .ok (q.2.1, q.2.2) := by decide +kernel
def f_X8_lowestCell_l12 (t0 : Nat) (x1 : Int32) (x2 : Int32) (σ : St) (z : Int32) : Option ((Int32) ⊕ ((Unit) ⊕ (Int32))) :=
  (f_X8_cellsOf t0 x2 σ).bind fun q2 => if q2 ≤ z then some (.inr (.inl ())) else (f_X8_onCell t0 x2 z σ).bind fun q4 => if q4 = x1 then some (.inr (.inr z)) else some (.inl (z + 1))
set_option maxHeartbeats 4000000 in
set_option maxRecDepth 100000 in
theorem w_X8_lowestCell_l12 (X : Cx g RX8 cX8_lowestCell 4 (some .int) p s m args meth c) (t0 : Nat) (hk0 : kd t0 = 9) (x1 : Int32) (x2 : Int32) (σ : St) {r : (Unit) ⊕ (Int32)} (KX0 : ∀ (v : Unit), r = (.inl v) → ∀ (H : Heap) (locs : List Loc) (ls : Array Slot), Wd g s σ H locs → lv_has ls 4 [] → W p l e (rmm 3 65) s m args below meth c H locs 0 0 Q (F0 m 39 ls [])) (KX1 : ∀ (v : Int32), r = (.inr v) → ∀ (H : Heap) (locs : List Loc) (ls : Array Slot), Wd g s σ H locs → lv_has ls 4 [(3, .int (v))] → W p l e (rmm 3 65) s m args below meth c H locs 0 0 Q (F0 m 31 ls [])) : ∀ (n : Nat) (z : Int32) {H : Heap} {locs : List Loc} {ls : Array Slot}, Wd g s σ H locs → lv_has ls 4 [(0, .ref (g.2.2 (t0))), (1, .int (x1)), (2, .int (x2)), (3, .int (z))] → lp (f_X8_lowestCell_l12 t0 x1 x2 σ) n z = some r → W p l e (rmm 3 65) s m args below meth c H locs 0 0 Q (F0 m 12 ls []) := by
  intro n
  induction n with
  | zero => intro z H locs ls Y hl h; cases h
  | succ n ih =>
    intro z H locs ls Y hl h
    obtain ⟨w, h, hw⟩ := lps h
    have KB : ∀ (v : Int32), w = .inl v → ∀ (H : Heap) (locs : List Loc) (ls : Array Slot), Wd g s σ H locs → lv_has ls 4 [(0, .ref (g.2.2 (t0))), (1, .int (x1)), (2, .int (x2)), (3, .int (v))] → W p l e (rmm 3 65) s m args below meth c H locs 0 0 Q (F0 m 12 ls []) := fun v e H locs ls Y hl => ih v Y hl (lpl hw e)
    have KX0 := fun (v : Unit) (e : w = .inr (.inl v)) => KX0 v (lpr hw e)
    have KX1 := fun (v : Int32) (e : w = .inr (.inr v)) => KX1 v (lpr hw e)
    unfold f_X8_lowestCell_l12 at h
    refine lv_iload_n X.1 X.2.1 (dk T_X8_lowestCell 8 rfl) rfl (lv_at hl 3 rfl) ?_
    refine lv_aload_n X.1 X.2.1 (dk T_X8_lowestCell 9 rfl) rfl (lv_at hl 0 rfl) ?_
    refine lv_iload_n X.1 X.2.1 (dk T_X8_lowestCell 10 rfl) rfl (lv_at hl 2 rfl) ?_
    obtain ⟨q2, hq2, h⟩ := bs h
    refine gvI (rest := [.int (z)]) X Y (c_X8_cellsOf t0 hk0 x2 σ hq2) cb_X8_45 hk0 hl.1 rfl rfl (Nat.le_of_ble_eq_true rfl) ⟨Nat.le_of_ble_eq_true rfl, Nat.le_of_ble_eq_true rfl⟩ (dk T_X8_lowestCell 11 rfl) (fun H locs Y => ?_)
    refine lv_icmp_ge (tgt := 39) X.1 X.2.1 (dk T_X8_lowestCell 12 rfl) rfl (fun c3 => ?_) (fun c3 => ?_)
    · replace h := ipos c3 h
      exact KX0 () (Option.some.inj h).symm _ _ _ Y (lv_sub hl [] rfl)
    · replace h := ineg c3 h
      refine lv_aload_n X.1 X.2.1 (dk T_X8_lowestCell 13 rfl) rfl (lv_at hl 0 rfl) ?_
      refine lv_iload_n X.1 X.2.1 (dk T_X8_lowestCell 14 rfl) rfl (lv_at hl 2 rfl) ?_
      refine lv_iload_n X.1 X.2.1 (dk T_X8_lowestCell 15 rfl) rfl (lv_at hl 3 rfl) ?_
      obtain ⟨q4, hq4, h⟩ := bs h
      refine gvI (rest := []) X Y (c_X8_onCell t0 hk0 x2 z σ hq4) cb_X8_48 hk0 hl.1 rfl rfl (Nat.le_of_ble_eq_true rfl) ⟨Nat.le_of_ble_eq_true rfl, Nat.le_of_ble_eq_true rfl⟩ (dk T_X8_lowestCell 16 rfl) (fun H locs Y => ?_)
      refine lv_iload_n X.1 X.2.1 (dk T_X8_lowestCell 17 rfl) rfl (lv_at hl 1 rfl) ?_
      refine lv_icmp_ne (tgt := 33) X.1 X.2.1 (dk T_X8_lowestCell 18 rfl) rfl (fun c5 => ?_) (fun c5 => ?_)
      · replace h := ineg c5 h
        refine lv_iinc (v := z + 1) (lv' := [(3, .int (z + 1)), (0, .ref (g.2.2 (t0))), (1, .int (x1)), (2, .int (x2))]) X.1 X.2.1 (dk T_X8_lowestCell 21 rfl) hl (k := 3) rfl (icx ic_1) (Nat.le_of_ble_eq_true rfl) rfl (fun ls hl => ?_)
        refine lv_goto (tgt := 12) X.1 X.2.1 (dk T_X8_lowestCell 22 rfl) rfl ?_
        exact KB (z + 1) (Option.some.inj h).symm _ _ _ Y (lv_sub hl [1, 2, 3, 0] rfl)
      · replace h := ipos c5 h
        exact KX1 z (Option.some.inj h).symm _ _ _ Y (lv_sub hl [3] rfl)
def f_X8_lowestCell_0 (t0 : Nat) (x1 : Int32) (σ : St) : Option (Int32) :=
  (f_X9_get (t0 + 5) x1 1 σ).bind fun q1 => (lp (f_X8_lowestCell_l12 t0 x1 q1 σ) FU 0).bind fun q6 => Sum.elim (fun v7 => some (-1)) (fun v8 => some v8) q6
set_option maxHeartbeats 4000000 in
set_option maxRecDepth 100000 in
theorem w_X8_lowestCell_0 (X : Cx g RX8 cX8_lowestCell 4 (some .int) p s m args meth c) (t0 : Nat) (hk0 : kd t0 = 9) (x1 : Int32) (σ : St) {w : Int32} (KR : ∀ (H : Heap) (locs : List Loc) (ls : Array Slot) (pc : Nat), Wd g s σ H locs → decode cX8_lowestCell pc = .ok (.ireturn, 1) → W p l e (rmm 3 65) s m args below meth c H locs 0 0 Q (F0 m pc ls [.int (w)])) {H : Heap} {locs : List Loc} {ls : Array Slot} (Y : Wd g s σ H locs) (hl : lv_has ls 4 [(0, .ref (g.2.2 (t0))), (1, .int (x1))]) (h : f_X8_lowestCell_0 t0 x1 σ = some w) : W p l e (rmm 3 65) s m args below meth c H locs 0 0 Q (F0 m 0 ls []) := by
  unfold f_X8_lowestCell_0 at h
  refine lv_aload_n X.1 X.2.1 (dk T_X8_lowestCell 0 rfl) rfl (lv_at hl 0 rfl) ?_
  refine gg X Y fl_X8_23 hk0 rfl (dk T_X8_lowestCell 1 rfl) ?_
  refine lv_iload_n X.1 X.2.1 (dk T_X8_lowestCell 2 rfl) rfl (lv_at hl 1 rfl) ?_
  refine lv_iconst (v := 1) X.1 X.2.1 (dk T_X8_lowestCell 3 rfl) ic_1 ?_
  obtain ⟨q1, hq1, h⟩ := bs h
  refine gvI (rest := []) X Y (c_X9_get (t0 + 5) (ks5 hk0) x1 1 σ hq1) cb_X8_30 (ks5 hk0) hl.1 rfl rfl (Nat.le_of_ble_eq_true rfl) ⟨Nat.le_of_ble_eq_true rfl, Nat.le_of_ble_eq_true rfl⟩ (dk T_X8_lowestCell 4 rfl) (fun H locs Y => ?_)
  refine lv_istore_n (lv' := [(2, .int (q1)), (0, .ref (g.2.2 (t0))), (1, .int (x1))]) X.1 X.2.1 (dk T_X8_lowestCell 5 rfl) rfl hl (Nat.le_of_ble_eq_true rfl) rfl (fun ls hl => ?_)
  refine lv_iconst (v := 0) X.1 X.2.1 (dk T_X8_lowestCell 6 rfl) ic_0 ?_
  refine lv_istore_n (lv' := [(3, .int (0)), (2, .int (q1)), (0, .ref (g.2.2 (t0))), (1, .int (x1))]) X.1 X.2.1 (dk T_X8_lowestCell 7 rfl) rfl hl (Nat.le_of_ble_eq_true rfl) rfl (fun ls hl => ?_)
  obtain ⟨q6, hq6, h⟩ := bs h
  refine w_X8_lowestCell_l12 X t0 hk0 x1 q1 σ (fun v e H locs ls Y hl => ?_) (fun v e H locs ls Y hl => ?_) FU 0 Y (lv_sub hl [2, 3, 1, 0] rfl) hq6
  · obtain rfl := e
    replace h := sel h
    refine lv_iconst (v := (-1)) X.1 X.2.1 (dk T_X8_lowestCell 23 rfl) ic_m1 ?_
    obtain rfl := Option.some.inj h
    exact KR _ _ _ _ Y (dk T_X8_lowestCell 24 rfl)
  · obtain rfl := e
    replace h := ser h
    refine lv_iload_n X.1 X.2.1 (dk T_X8_lowestCell 19 rfl) rfl (lv_at hl 0 rfl) ?_
    obtain rfl := Option.some.inj h
    exact KR _ _ _ _ Y (dk T_X8_lowestCell 20 rfl)
def f_X8_lowestCell (t0 : Nat) (x1 : Int32) (σ : St) : Option (Int32) := f_X8_lowestCell_0 t0 x1 σ
set_option maxHeartbeats 4000000 in
set_option maxRecDepth 100000 in
theorem c_X8_lowestCell {l : Launch} {g : Geo} (t0 : Nat) (hk0 : kd t0 = 9) (x1 : Int32) (σ : St) {w : Int32} (h : f_X8_lowestCell t0 x1 σ = some w) : CtI l yX8_lowestCell cX8_lowestCell 4 (some .int) (rmm 3 65) g [.ref (g.2.2 (t0)), .int (x1)] σ w σ := enI .int (by decide) rfl rfl (Nat.le_of_ble_eq_true rfl) (fun p e s m args below meth c Q X Y ls hl KR => w_X8_lowestCell_0 X t0 hk0 x1 σ KR Y hl h)
def I_X8_sizeOfPart : List (Nat × Instr × Nat) := [(0, .aload_n 0, 1), (1, .aload_n 0, 1), (2, .getfield 23, 3), (5, .iload_n 1, 1), (6, .iconst 0, 1), (7, .invokevirtual 30, 3), (10, .invokevirtual 101, 3), (13, .ireturn, 1)]
set_option maxRecDepth 100000 in
theorem T_X8_sizeOfPart : ∀ q ∈ I_X8_sizeOfPart, decode cX8_sizeOfPart q.1 = .ok (q.2.1, q.2.2) := by decide +kernel
def f_X8_sizeOfPart_0 (t0 : Nat) (x1 : Int32) (σ : St) : Option (Int32) :=
  (f_X9_get (t0 + 5) x1 0 σ).bind fun q1 => (f_X8_sizeOf t0 q1 σ).bind fun q2 => some q2
set_option maxHeartbeats 4000000 in
set_option maxRecDepth 100000 in
theorem w_X8_sizeOfPart_0 (X : Cx g RX8 cX8_sizeOfPart 2 (some .int) p s m args meth c) (t0 : Nat) (hk0 : kd t0 = 9) (x1 : Int32) (σ : St) {w : Int32} (KR : ∀ (H : Heap) (locs : List Loc) (ls : Array Slot) (pc : Nat), Wd g s σ H locs → decode cX8_sizeOfPart pc = .ok (.ireturn, 1) → W p l e (rmm 2 44) s m args below meth c H locs 0 0 Q (F0 m pc ls [.int (w)])) {H : Heap} {locs : List Loc} {ls : Array Slot} (Y : Wd g s σ H locs) (hl : lv_has ls 2 [(0, .ref (g.2.2 (t0))), (1, .int (x1))]) (h : f_X8_sizeOfPart_0 t0 x1 σ = some w) : W p l e (rmm 2 44) s m args below meth c H locs 0 0 Q (F0 m 0 ls []) := by
  unfold f_X8_sizeOfPart_0 at h
  refine lv_aload_n X.1 X.2.1 (dk T_X8_sizeOfPart 0 rfl) rfl (lv_at hl 0 rfl) ?_
  refine lv_aload_n X.1 X.2.1 (dk T_X8_sizeOfPart 1 rfl) rfl (lv_at hl 0 rfl) ?_
  refine gg X Y fl_X8_23 hk0 rfl (dk T_X8_sizeOfPart 2 rfl) ?_
  refine lv_iload_n X.1 X.2.1 (dk T_X8_sizeOfPart 3 rfl) rfl (lv_at hl 1 rfl) ?_
  refine lv_iconst (v := 0) X.1 X.2.1 (dk T_X8_sizeOfPart 4 rfl) ic_0 ?_
  obtain ⟨q1, hq1, h⟩ := bs h
  refine gvI (rest := [.ref (g.2.2 (t0))]) X Y (c_X9_get (t0 + 5) (ks5 hk0) x1 0 σ hq1) cb_X8_30 (ks5 hk0) hl.1 rfl rfl (Nat.le_of_ble_eq_true rfl) ⟨Nat.le_of_ble_eq_true rfl, Nat.le_of_ble_eq_true rfl⟩ (dk T_X8_sizeOfPart 5 rfl) (fun H locs Y => ?_)
  obtain ⟨q2, hq2, h⟩ := bs h
  refine gvI (rest := []) X Y (c_X8_sizeOf t0 hk0 q1 σ hq2) cb_X8_101 hk0 hl.1 rfl rfl (Nat.le_of_ble_eq_true rfl) ⟨Nat.le_of_ble_eq_true rfl, Nat.le_of_ble_eq_true rfl⟩ (dk T_X8_sizeOfPart 6 rfl) (fun H locs Y => ?_)
  obtain rfl := Option.some.inj h
  exact KR _ _ _ _ Y (dk T_X8_sizeOfPart 7 rfl)
def f_X8_sizeOfPart (t0 : Nat) (x1 : Int32) (σ : St) : Option (Int32) := f_X8_sizeOfPart_0 t0 x1 σ
set_option maxHeartbeats 4000000 in
set_option maxRecDepth 100000 in
theorem c_X8_sizeOfPart {l : Launch} {g : Geo} (t0 : Nat) (hk0 : kd t0 = 9) (x1 : Int32) (σ : St) {w : Int32} (h : f_X8_sizeOfPart t0 x1 σ = some w) : CtI l yX8_sizeOfPart cX8_sizeOfPart 2 (some .int) (rmm 2 44) g [.ref (g.2.2 (t0)), .int (x1)] σ w σ := enI .int (by decide) rfl rfl (Nat.le_of_ble_eq_true rfl) (fun p e s m args below meth c Q X Y ls hl KR => w_X8_sizeOfPart_0 X t0 hk0 x1 σ KR Y hl h)
def I_X8_otherPart : List (Nat × Instr × Nat) := [(0, .iload_n 0, 1), (1, .ifCond .lt 12, 3), (4, .iload_n 0, 1), (5, .iload_n 1, 1), (6, .if_icmp .eq 7, 3), (9, .iconst 1, 1), (10, .goto 4, 3), (13, .iconst 0, 1), (14, .ireturn, 1)]
set_option maxRecDepth 100000 in
theorem T_X8_otherPart : ∀ q ∈ I_X8_otherPart, decode cX8_otherPart q.1 = .ok (q.2.1, q.2.2) := by decide +kernel
def f_X8_otherPart_0 (x0 : Int32) (x1 : Int32) : Option (Int32) :=
  if x0 < 0 then some 0 else if x0 = x1 then some 0 else some 1
set_option maxHeartbeats 4000000 in
set_option maxRecDepth 100000 in
theorem w_X8_otherPart_0 (X : Cx g RX8 cX8_otherPart 2 (some .int) p s m args meth c) (x0 : Int32) (x1 : Int32) (σ : St) {w : Int32} (KR : ∀ (H : Heap) (locs : List Loc) (ls : Array Slot) (pc : Nat), Wd g s σ H locs → decode cX8_otherPart pc = .ok (.ireturn, 1) → W p l e (rmm 0 0) s m args below meth c H locs 0 0 Q (F0 m pc ls [.int (w)])) {H : Heap} {locs : List Loc} {ls : Array Slot} (Y : Wd g s σ H locs) (hl : lv_has ls 2 [(0, .int (x0)), (1, .int (x1))]) (h : f_X8_otherPart_0 x0 x1 = some w) : W p l e (rmm 0 0) s m args below meth c H locs 0 0 Q (F0 m 0 ls []) := by
  unfold f_X8_otherPart_0 at h
  refine lv_iload_n X.1 X.2.1 (dk T_X8_otherPart 0 rfl) rfl (lv_at hl 0 rfl) ?_
  refine lv_if_lt (tgt := 13) X.1 X.2.1 (dk T_X8_otherPart 1 rfl) rfl (fun c1 => ?_) (fun c1 => ?_)
  · replace h := ipos c1 h
    refine lv_iconst (v := 0) X.1 X.2.1 (dk T_X8_otherPart 7 rfl) ic_0 ?_
    obtain rfl := Option.some.inj h
    exact KR _ _ _ _ Y (dk T_X8_otherPart 8 rfl)
  · replace h := ineg c1 h
    refine lv_iload_n X.1 X.2.1 (dk T_X8_otherPart 2 rfl) rfl (lv_at hl 0 rfl) ?_
    refine lv_iload_n X.1 X.2.1 (dk T_X8_otherPart 3 rfl) rfl (lv_at hl 1 rfl) ?_
    refine lv_icmp_eq (tgt := 13) X.1 X.2.1 (dk T_X8_otherPart 4 rfl) rfl (fun c2 => ?_) (fun c2 => ?_)
    · replace h := ipos c2 h
      refine lv_iconst (v := 0) X.1 X.2.1 (dk T_X8_otherPart 7 rfl) ic_0 ?_
      obtain rfl := Option.some.inj h
      exact KR _ _ _ _ Y (dk T_X8_otherPart 8 rfl)
    · replace h := ineg c2 h
      refine lv_iconst (v := 1) X.1 X.2.1 (dk T_X8_otherPart 5 rfl) ic_1 ?_
      refine lv_goto (tgt := 14) X.1 X.2.1 (dk T_X8_otherPart 6 rfl) rfl ?_
      obtain rfl := Option.some.inj h
      exact KR _ _ _ _ Y (dk T_X8_otherPart 8 rfl)
def f_X8_otherPart (x0 : Int32) (x1 : Int32) : Option (Int32) := f_X8_otherPart_0 x0 x1
set_option maxHeartbeats 4000000 in
set_option maxRecDepth 100000 in
theorem c_X8_otherPart {l : Launch} {g : Geo} (x0 : Int32) (x1 : Int32) (σ : St) {w : Int32} (h : f_X8_otherPart x0 x1 = some w) : CtI l yX8_otherPart cX8_otherPart 2 (some .int) (rmm 0 0) g [.int (x0), .int (x1)] σ w σ := enI .int (by decide) rfl rfl (Nat.le_of_ble_eq_true rfl) (fun p e s m args below meth c Q X Y ls hl KR => w_X8_otherPart_0 X x0 x1 σ KR Y hl h)
def I_X8_otherPartsBeside : List (Nat × Instr × Nat) := [(0, .aload_n 0, 1), (1, .iload_n 1, 1), (2, .iload_n 2, 1), (3, .iconst 1, 1), (4, .isub, 1), (5, .iload_n 3, 1), (6, .invokevirtual 104, 3), (9, .iload 4, 2), (11, .invokestatic 115, 3), (14, .aload_n 0, 1), (15, .iload_n 1, 1), (16, .iload_n 2, 1), (17, .iconst 1, 1), (18, .iadd, 1), (19, .iload_n 3, 1), (20, .invokevirtual 104, 3), (23, .iload 4, 2), (25, .invokestatic 115, 3), (28, .iadd, 1), (29, .aload_n 0, 1), (30, .iload_n 1, 1), (31, .iload_n 2, 1), (32, .iload_n 3, 1), (33, .iconst 1, 1), (34, .isub, 1), (35, .invokevirtual 104, 3), (38, .iload 4, 2), (40, .invokestatic 115, 3), (43, .iadd, 1), (44, .aload_n 0, 1), (45, .iload_n 1, 1), (46, .iload_n 2, 1), (47, .iload_n 3, 1), (48, .iconst 1, 1), (49, .iadd, 1), (50, .invokevirtual 104, 3), (53, .iload 4, 2), (55, .invokestatic 115, 3), (58, .iadd, 1), (59, .ireturn, 1)]
set_option maxRecDepth 100000 in
theorem T_X8_otherPartsBeside : ∀ q ∈ I_X8_otherPartsBeside, decode cX8_otherPartsBeside q.1 = .ok (q.2.1, q.2.2) := by decide +kernel
def f_X8_otherPartsBeside_0 (t0 : Nat) (x1 : Int32) (x2 : Int32) (x3 : Int32) (x4 : Int32) (σ : St) : Option (Int32) :=
  (f_X8_onPlace t0 x1 (x2 - 1) x3 σ).bind fun q1 => (f_X8_otherPart q1 x4).bind fun q2 => (f_X8_onPlace t0 x1 (x2 + 1) x3 σ).bind fun q3 => (f_X8_otherPart q3 x4).bind fun q4 => (f_X8_onPlace t0 x1 x2 (x3 - 1) σ).bind fun q5 => (f_X8_otherPart q5 x4).bind fun q6 => (f_X8_onPlace t0 x1 x2 (x3 + 1) σ).bind fun q7 => (f_X8_otherPart q7 x4).bind fun q8 => some (((q2 + q4) + q6) + q8)
set_option maxHeartbeats 4000000 in
set_option maxRecDepth 100000 in
theorem w_X8_otherPartsBeside_0 (X : Cx g RX8 cX8_otherPartsBeside 5 (some .int) p s m args meth c) (t0 : Nat) (hk0 : kd t0 = 9) (x1 : Int32) (x2 : Int32) (x3 : Int32) (x4 : Int32) (σ : St) {w : Int32} (KR : ∀ (H : Heap) (locs : List Loc) (ls : Array Slot) (pc : Nat), Wd g s σ H locs → decode cX8_otherPartsBeside pc = .ok (.ireturn, 1) → W p l e (rmm 2 48) s m args below meth c H locs 0 0 Q (F0 m pc ls [.int (w)])) {H : Heap} {locs : List Loc} {ls : Array Slot} (Y : Wd g s σ H locs) (hl : lv_has ls 5 [(0, .ref (g.2.2 (t0))), (1, .int (x1)), (2, .int (x2)), (3, .int (x3)), (4, .int (x4))]) (h : f_X8_otherPartsBeside_0 t0 x1 x2 x3 x4 σ = some w) : W p l e (rmm 2 48) s m args below meth c H locs 0 0 Q (F0 m 0 ls []) := by
  unfold f_X8_otherPartsBeside_0 at h
  refine lv_aload_n X.1 X.2.1 (dk T_X8_otherPartsBeside 0 rfl) rfl (lv_at hl 0 rfl) ?_
  refine lv_iload_n X.1 X.2.1 (dk T_X8_otherPartsBeside 1 rfl) rfl (lv_at hl 1 rfl) ?_
  refine lv_iload_n X.1 X.2.1 (dk T_X8_otherPartsBeside 2 rfl) rfl (lv_at hl 2 rfl) ?_
  refine lv_iconst (v := 1) X.1 X.2.1 (dk T_X8_otherPartsBeside 3 rfl) ic_1 ?_
  refine lv_isub X.1 X.2.1 (dk T_X8_otherPartsBeside 4 rfl) ?_
  refine lv_iload_n X.1 X.2.1 (dk T_X8_otherPartsBeside 5 rfl) rfl (lv_at hl 3 rfl) ?_
  obtain ⟨q1, hq1, h⟩ := bs h
  refine gvI (rest := []) X Y (c_X8_onPlace t0 hk0 x1 (x2 - 1) x3 σ hq1) cb_X8_104 hk0 hl.1 rfl rfl (Nat.le_of_ble_eq_true rfl) ⟨Nat.le_of_ble_eq_true rfl, Nat.le_of_ble_eq_true rfl⟩ (dk T_X8_otherPartsBeside 6 rfl) (fun H locs Y => ?_)
  refine lv_iload X.1 X.2.1 (dk T_X8_otherPartsBeside 7 rfl) (lv_at hl 4 rfl) ?_
  obtain ⟨q2, hq2, h⟩ := bs h
  refine gsI (rest := []) X Y (c_X8_otherPart q1 x4 σ hq2) cb_X8_115 hl.1 rfl rfl (Nat.le_of_ble_eq_true rfl) ⟨Nat.le_of_ble_eq_true rfl, Nat.le_of_ble_eq_true rfl⟩ (dk T_X8_otherPartsBeside 8 rfl) (fun H locs Y => ?_)
  refine lv_aload_n X.1 X.2.1 (dk T_X8_otherPartsBeside 9 rfl) rfl (lv_at hl 0 rfl) ?_
  refine lv_iload_n X.1 X.2.1 (dk T_X8_otherPartsBeside 10 rfl) rfl (lv_at hl 1 rfl) ?_
  refine lv_iload_n X.1 X.2.1 (dk T_X8_otherPartsBeside 11 rfl) rfl (lv_at hl 2 rfl) ?_
  refine lv_iconst (v := 1) X.1 X.2.1 (dk T_X8_otherPartsBeside 12 rfl) ic_1 ?_
  refine lv_iadd X.1 X.2.1 (dk T_X8_otherPartsBeside 13 rfl) ?_
  refine lv_iload_n X.1 X.2.1 (dk T_X8_otherPartsBeside 14 rfl) rfl (lv_at hl 3 rfl) ?_
  obtain ⟨q3, hq3, h⟩ := bs h
  refine gvI (rest := [.int (q2)]) X Y (c_X8_onPlace t0 hk0 x1 (x2 + 1) x3 σ hq3) cb_X8_104 hk0 hl.1 rfl rfl (Nat.le_of_ble_eq_true rfl) ⟨Nat.le_of_ble_eq_true rfl, Nat.le_of_ble_eq_true rfl⟩ (dk T_X8_otherPartsBeside 15 rfl) (fun H locs Y => ?_)
  refine lv_iload X.1 X.2.1 (dk T_X8_otherPartsBeside 16 rfl) (lv_at hl 4 rfl) ?_
  obtain ⟨q4, hq4, h⟩ := bs h
  refine gsI (rest := [.int (q2)]) X Y (c_X8_otherPart q3 x4 σ hq4) cb_X8_115 hl.1 rfl rfl (Nat.le_of_ble_eq_true rfl) ⟨Nat.le_of_ble_eq_true rfl, Nat.le_of_ble_eq_true rfl⟩ (dk T_X8_otherPartsBeside 17 rfl) (fun H locs Y => ?_)
  refine lv_iadd X.1 X.2.1 (dk T_X8_otherPartsBeside 18 rfl) ?_
  refine lv_aload_n X.1 X.2.1 (dk T_X8_otherPartsBeside 19 rfl) rfl (lv_at hl 0 rfl) ?_
  refine lv_iload_n X.1 X.2.1 (dk T_X8_otherPartsBeside 20 rfl) rfl (lv_at hl 1 rfl) ?_
  refine lv_iload_n X.1 X.2.1 (dk T_X8_otherPartsBeside 21 rfl) rfl (lv_at hl 2 rfl) ?_
  refine lv_iload_n X.1 X.2.1 (dk T_X8_otherPartsBeside 22 rfl) rfl (lv_at hl 3 rfl) ?_
  refine lv_iconst (v := 1) X.1 X.2.1 (dk T_X8_otherPartsBeside 23 rfl) ic_1 ?_
  refine lv_isub X.1 X.2.1 (dk T_X8_otherPartsBeside 24 rfl) ?_
  obtain ⟨q5, hq5, h⟩ := bs h
  refine gvI (rest := [.int (q2 + q4)]) X Y (c_X8_onPlace t0 hk0 x1 x2 (x3 - 1) σ hq5) cb_X8_104 hk0 hl.1 rfl rfl (Nat.le_of_ble_eq_true rfl) ⟨Nat.le_of_ble_eq_true rfl, Nat.le_of_ble_eq_true rfl⟩ (dk T_X8_otherPartsBeside 25 rfl) (fun H locs Y => ?_)
  refine lv_iload X.1 X.2.1 (dk T_X8_otherPartsBeside 26 rfl) (lv_at hl 4 rfl) ?_
  obtain ⟨q6, hq6, h⟩ := bs h
  refine gsI (rest := [.int (q2 + q4)]) X Y (c_X8_otherPart q5 x4 σ hq6) cb_X8_115 hl.1 rfl rfl (Nat.le_of_ble_eq_true rfl) ⟨Nat.le_of_ble_eq_true rfl, Nat.le_of_ble_eq_true rfl⟩ (dk T_X8_otherPartsBeside 27 rfl) (fun H locs Y => ?_)
  refine lv_iadd X.1 X.2.1 (dk T_X8_otherPartsBeside 28 rfl) ?_
  refine lv_aload_n X.1 X.2.1 (dk T_X8_otherPartsBeside 29 rfl) rfl (lv_at hl 0 rfl) ?_
  refine lv_iload_n X.1 X.2.1 (dk T_X8_otherPartsBeside 30 rfl) rfl (lv_at hl 1 rfl) ?_
  refine lv_iload_n X.1 X.2.1 (dk T_X8_otherPartsBeside 31 rfl) rfl (lv_at hl 2 rfl) ?_
  refine lv_iload_n X.1 X.2.1 (dk T_X8_otherPartsBeside 32 rfl) rfl (lv_at hl 3 rfl) ?_
  refine lv_iconst (v := 1) X.1 X.2.1 (dk T_X8_otherPartsBeside 33 rfl) ic_1 ?_
  refine lv_iadd X.1 X.2.1 (dk T_X8_otherPartsBeside 34 rfl) ?_
  obtain ⟨q7, hq7, h⟩ := bs h
  refine gvI (rest := [.int ((q2 + q4) + q6)]) X Y (c_X8_onPlace t0 hk0 x1 x2 (x3 + 1) σ hq7) cb_X8_104 hk0 hl.1 rfl rfl (Nat.le_of_ble_eq_true rfl) ⟨Nat.le_of_ble_eq_true rfl, Nat.le_of_ble_eq_true rfl⟩ (dk T_X8_otherPartsBeside 35 rfl) (fun H locs Y => ?_)
  refine lv_iload X.1 X.2.1 (dk T_X8_otherPartsBeside 36 rfl) (lv_at hl 4 rfl) ?_
  obtain ⟨q8, hq8, h⟩ := bs h
  refine gsI (rest := [.int ((q2 + q4) + q6)]) X Y (c_X8_otherPart q7 x4 σ hq8) cb_X8_115 hl.1 rfl rfl (Nat.le_of_ble_eq_true rfl) ⟨Nat.le_of_ble_eq_true rfl, Nat.le_of_ble_eq_true rfl⟩ (dk T_X8_otherPartsBeside 37 rfl) (fun H locs Y => ?_)
  refine lv_iadd X.1 X.2.1 (dk T_X8_otherPartsBeside 38 rfl) ?_
  obtain rfl := Option.some.inj h
  exact KR _ _ _ _ Y (dk T_X8_otherPartsBeside 39 rfl)
def f_X8_otherPartsBeside (t0 : Nat) (x1 : Int32) (x2 : Int32) (x3 : Int32) (x4 : Int32) (σ : St) : Option (Int32) := f_X8_otherPartsBeside_0 t0 x1 x2 x3 x4 σ
set_option maxHeartbeats 4000000 in
set_option maxRecDepth 100000 in
theorem c_X8_otherPartsBeside {l : Launch} {g : Geo} (t0 : Nat) (hk0 : kd t0 = 9) (x1 : Int32) (x2 : Int32) (x3 : Int32) (x4 : Int32) (σ : St) {w : Int32} (h : f_X8_otherPartsBeside t0 x1 x2 x3 x4 σ = some w) : CtI l yX8_otherPartsBeside cX8_otherPartsBeside 5 (some .int) (rmm 2 48) g [.ref (g.2.2 (t0)), .int (x1), .int (x2), .int (x3), .int (x4)] σ w σ := enI .int (by decide) rfl rfl (Nat.le_of_ble_eq_true rfl) (fun p e s m args below meth c Q X Y ls hl KR => w_X8_otherPartsBeside_0 X t0 hk0 x1 x2 x3 x4 σ KR Y hl h)
def I_X8_commonCutsOf : List (Nat × Instr × Nat) := [(0, .iconst 0, 1), (1, .istore_n 2, 1), (2, .aload_n 0, 1), (3, .getfield 23, 3), (6, .iload_n 1, 1), (7, .iconst 1, 1), (8, .invokevirtual 30, 3), (11, .istore_n 3, 1), (12, .iconst 0, 1), (13, .istore 4, 2), (15, .iload 4, 2), (17, .aload_n 0, 1), (18, .iload_n 3, 1), (19, .invokevirtual 38, 3), (22, .if_icmp .ge 54, 3), (25, .iconst 0, 1), (26, .istore 5, 2), (28, .iload 5, 2), (30, .aload_n 0, 1), (31, .iload_n 3, 1), (32, .invokevirtual 34, 3), (35, .if_icmp .ge 35, 3), (38, .aload_n 0, 1), (39, .iload_n 3, 1), (40, .iload 5, 2), (42, .iload 4, 2), (44, .invokevirtual 104, 3), (47, .iload_n 1, 1), (48, .if_icmp .ne 16, 3), (51, .iload_n 2, 1), (52, .aload_n 0, 1), (53, .iload_n 3, 1), (54, .iload 5, 2), (56, .iload 4, 2), (58, .iload_n 1, 1), (59, .invokevirtual 111, 3), (62, .iadd, 1), (63, .istore_n 2, 1), (64, .iinc 5 1, 3), (67, .goto (-39), 3), (70, .iinc 4 1, 3), (73, .goto (-58), 3), (76, .iload_n 2, 1), (77, .ireturn, 1)]
set_option maxRecDepth 100000 in
theorem T_X8_commonCutsOf : ∀ q ∈ I_X8_commonCutsOf, decode cX8_commonCutsOf q.1 = .ok (q.2.1, q.2.2) := by decide +kernel
def f_X8_commonCutsOf_j64 (t0 : Nat) (x1 : Int32) (x2 : Int32) (x3 : Int32) (x4 : Int32) (x5 : Int32) (σ : St) : Option ((Int32 × Int32) ⊕ (Int32)) :=
  some (.inl (x2, x5 + 1))
set_option maxHeartbeats 4000000 in
set_option maxRecDepth 100000 in
theorem w_X8_commonCutsOf_j64 (X : Cx g RX8 cX8_commonCutsOf 6 (some .int) p s m args meth c) (t0 : Nat) (hk0 : kd t0 = 9) (x1 : Int32) (x2 : Int32) (x3 : Int32) (x4 : Int32) (x5 : Int32) (σ : St) {w : (Int32 × Int32) ⊕ (Int32)} (KB : ∀ (v0_ : Int32) (v1_ : Int32), w = .inl (v0_, v1_) → ∀ (H : Heap) (locs : List Loc) (ls : Array Slot), Wd g s σ H locs → lv_has ls 6 [(0, .ref (g.2.2 (t0))), (1, .int (x1)), (2, .int (v0_)), (3, .int (x3)), (4, .int (x4)), (5, .int (v1_))] → W p l e (rmm 3 72) s m args below meth c H locs 0 0 Q (F0 m 28 ls [])) (KX0 : ∀ (v : Int32), w = .inr v → ∀ (H : Heap) (locs : List Loc) (ls : Array Slot), Wd g s σ H locs → lv_has ls 6 [(0, .ref (g.2.2 (t0))), (1, .int (x1)), (2, .int (v)), (3, .int (x3)), (4, .int (x4))] → W p l e (rmm 3 72) s m args below meth c H locs 0 0 Q (F0 m 70 ls [])) {H : Heap} {locs : List Loc} {ls : Array Slot} (Y : Wd g s σ H locs) (hl : lv_has ls 6 [(0, .ref (g.2.2 (t0))), (1, .int (x1)), (2, .int (x2)), (3, .int (x3)), (4, .int (x4)), (5, .int (x5))]) (h : f_X8_commonCutsOf_j64 t0 x1 x2 x3 x4 x5 σ = some w) : W p l e (rmm 3 72) s m args below meth c H locs 0 0 Q (F0 m 64 ls []) := by
  unfold f_X8_commonCutsOf_j64 at h
  refine lv_iinc (v := x5 + 1) (lv' := [(5, .int (x5 + 1)), (0, .ref (g.2.2 (t0))), (1, .int (x1)), (2, .int (x2)), (3, .int (x3)), (4, .int (x4))]) X.1 X.2.1 (dk T_X8_commonCutsOf 38 rfl) hl (k := 5) rfl (icx ic_1) (Nat.le_of_ble_eq_true rfl) rfl (fun ls hl => ?_)
  refine lv_goto (tgt := 28) X.1 X.2.1 (dk T_X8_commonCutsOf 39 rfl) rfl ?_
  exact KB x2 (x5 + 1) (Option.some.inj h).symm _ _ _ Y (lv_sub hl [1, 2, 3, 4, 5, 0] rfl)
def f_X8_commonCutsOf_l28 (t0 : Nat) (x1 : Int32) (x3 : Int32) (x4 : Int32) (σ : St) (z : Int32 × Int32) : Option ((Int32 × Int32) ⊕ (Int32)) :=
  (f_X8_columnsOf t0 x3 σ).bind fun q4 => if q4 ≤ z.2 then some (.inr z.1) else (f_X8_onPlace t0 x3 z.2 x4 σ).bind fun q6 => if q6 = x1 then (f_X8_otherPartsBeside t0 x3 z.2 x4 x1 σ).bind fun q8 => f_X8_commonCutsOf_j64 t0 x1 (z.1 + q8) x3 x4 z.2 σ else f_X8_commonCutsOf_j64 t0 x1 z.1 x3 x4 z.2 σ
set_option maxHeartbeats 4000000 in
set_option maxRecDepth 100000 in
theorem w_X8_commonCutsOf_l28 (X : Cx g RX8 cX8_commonCutsOf 6 (some .int) p s m args meth c) (t0 : Nat) (hk0 : kd t0 = 9) (x1 : Int32) (x3 : Int32) (x4 : Int32) (σ : St) {r : Int32} (KX0 : ∀ (v : Int32), r = v → ∀ (H : Heap) (locs : List Loc) (ls : Array Slot), Wd g s σ H locs → lv_has ls 6 [(0, .ref (g.2.2 (t0))), (1, .int (x1)), (2, .int (v)), (3, .int (x3)), (4, .int (x4))] → W p l e (rmm 3 72) s m args below meth c H locs 0 0 Q (F0 m 70 ls [])) : ∀ (n : Nat) (z : Int32 × Int32) {H : Heap} {locs : List Loc} {ls : Array Slot}, Wd g s σ H locs → lv_has ls 6 [(0, .ref (g.2.2 (t0))), (1, .int (x1)), (2, .int (z.1)), (3, .int (x3)), (4, .int (x4)), (5, .int (z.2))] → lp (f_X8_commonCutsOf_l28 t0 x1 x3 x4 σ) n z = some r → W p l e (rmm 3 72) s m args below meth c H locs 0 0 Q (F0 m 28 ls []) := by
  intro n
  induction n with
  | zero => intro z H locs ls Y hl h; cases h
  | succ n ih =>
    intro z H locs ls Y hl h
    obtain ⟨w, h, hw⟩ := lps h
    have KB : ∀ (v0_ : Int32) (v1_ : Int32), w = .inl (v0_, v1_) → ∀ (H : Heap) (locs : List Loc) (ls : Array Slot), Wd g s σ H locs → lv_has ls 6 [(0, .ref (g.2.2 (t0))), (1, .int (x1)), (2, .int (v0_)), (3, .int (x3)), (4, .int (x4)), (5, .int (v1_))] → W p l e (rmm 3 72) s m args below meth c H locs 0 0 Q (F0 m 28 ls []) := fun v0_ v1_ e H locs ls Y hl => ih (v0_, v1_) Y hl (lpl hw e)
    have KX0 := fun (v : Int32) (e : w = .inr v) => KX0 v (lpr hw e)
    unfold f_X8_commonCutsOf_l28 at h
    refine lv_iload X.1 X.2.1 (dk T_X8_commonCutsOf 17 rfl) (lv_at hl 5 rfl) ?_
    refine lv_aload_n X.1 X.2.1 (dk T_X8_commonCutsOf 18 rfl) rfl (lv_at hl 0 rfl) ?_
    refine lv_iload_n X.1 X.2.1 (dk T_X8_commonCutsOf 19 rfl) rfl (lv_at hl 3 rfl) ?_
    obtain ⟨q4, hq4, h⟩ := bs h
    refine gvI (rest := [.int (z.2)]) X Y (c_X8_columnsOf t0 hk0 x3 σ hq4) cb_X8_34 hk0 hl.1 rfl rfl (Nat.le_of_ble_eq_true rfl) ⟨Nat.le_of_ble_eq_true rfl, Nat.le_of_ble_eq_true rfl⟩ (dk T_X8_commonCutsOf 20 rfl) (fun H locs Y => ?_)
    refine lv_icmp_ge (tgt := 70) X.1 X.2.1 (dk T_X8_commonCutsOf 21 rfl) rfl (fun c5 => ?_) (fun c5 => ?_)
    · replace h := ipos c5 h
      exact KX0 z.1 (Option.some.inj h).symm _ _ _ Y (lv_sub hl [0, 1, 2, 3, 4] rfl)
    · replace h := ineg c5 h
      refine lv_aload_n X.1 X.2.1 (dk T_X8_commonCutsOf 22 rfl) rfl (lv_at hl 0 rfl) ?_
      refine lv_iload_n X.1 X.2.1 (dk T_X8_commonCutsOf 23 rfl) rfl (lv_at hl 3 rfl) ?_
      refine lv_iload X.1 X.2.1 (dk T_X8_commonCutsOf 24 rfl) (lv_at hl 5 rfl) ?_
      refine lv_iload X.1 X.2.1 (dk T_X8_commonCutsOf 25 rfl) (lv_at hl 4 rfl) ?_
      obtain ⟨q6, hq6, h⟩ := bs h
      refine gvI (rest := []) X Y (c_X8_onPlace t0 hk0 x3 z.2 x4 σ hq6) cb_X8_104 hk0 hl.1 rfl rfl (Nat.le_of_ble_eq_true rfl) ⟨Nat.le_of_ble_eq_true rfl, Nat.le_of_ble_eq_true rfl⟩ (dk T_X8_commonCutsOf 26 rfl) (fun H locs Y => ?_)
      refine lv_iload_n X.1 X.2.1 (dk T_X8_commonCutsOf 27 rfl) rfl (lv_at hl 1 rfl) ?_
      refine lv_icmp_ne (tgt := 64) X.1 X.2.1 (dk T_X8_commonCutsOf 28 rfl) rfl (fun c7 => ?_) (fun c7 => ?_)
      · replace h := ineg c7 h
        exact w_X8_commonCutsOf_j64 X t0 hk0 x1 z.1 x3 x4 z.2 σ KB KX0 Y (lv_sub hl [0, 1, 2, 3, 4, 5] rfl) h
      · replace h := ipos c7 h
        refine lv_iload_n X.1 X.2.1 (dk T_X8_commonCutsOf 29 rfl) rfl (lv_at hl 2 rfl) ?_
        refine lv_aload_n X.1 X.2.1 (dk T_X8_commonCutsOf 30 rfl) rfl (lv_at hl 0 rfl) ?_
        refine lv_iload_n X.1 X.2.1 (dk T_X8_commonCutsOf 31 rfl) rfl (lv_at hl 3 rfl) ?_
        refine lv_iload X.1 X.2.1 (dk T_X8_commonCutsOf 32 rfl) (lv_at hl 5 rfl) ?_
        refine lv_iload X.1 X.2.1 (dk T_X8_commonCutsOf 33 rfl) (lv_at hl 4 rfl) ?_
        refine lv_iload_n X.1 X.2.1 (dk T_X8_commonCutsOf 34 rfl) rfl (lv_at hl 1 rfl) ?_
        obtain ⟨q8, hq8, h⟩ := bs h
        refine gvI (rest := [.int (z.1)]) X Y (c_X8_otherPartsBeside t0 hk0 x3 z.2 x4 x1 σ hq8) cb_X8_111 hk0 hl.1 rfl rfl (Nat.le_of_ble_eq_true rfl) ⟨Nat.le_of_ble_eq_true rfl, Nat.le_of_ble_eq_true rfl⟩ (dk T_X8_commonCutsOf 35 rfl) (fun H locs Y => ?_)
        refine lv_iadd X.1 X.2.1 (dk T_X8_commonCutsOf 36 rfl) ?_
        refine lv_istore_n (lv' := [(2, .int (z.1 + q8)), (0, .ref (g.2.2 (t0))), (1, .int (x1)), (3, .int (x3)), (4, .int (x4)), (5, .int (z.2))]) X.1 X.2.1 (dk T_X8_commonCutsOf 37 rfl) rfl hl (Nat.le_of_ble_eq_true rfl) rfl (fun ls hl => ?_)
        exact w_X8_commonCutsOf_j64 X t0 hk0 x1 (z.1 + q8) x3 x4 z.2 σ KB KX0 Y (lv_sub hl [1, 2, 0, 3, 4, 5] rfl) h
def f_X8_commonCutsOf_l15 (t0 : Nat) (x1 : Int32) (x3 : Int32) (σ : St) (z : Int32 × Int32) : Option ((Int32 × Int32) ⊕ (Int32)) :=
  (f_X8_rowsOf t0 x3 σ).bind fun q2 => if q2 ≤ z.2 then some (.inr z.1) else (lp (f_X8_commonCutsOf_l28 t0 x1 x3 z.2 σ) FU (z.1, 0)).bind fun q9 => some (.inl (q9, z.2 + 1))
set_option maxHeartbeats 4000000 in
set_option maxRecDepth 100000 in
theorem w_X8_commonCutsOf_l15 (X : Cx g RX8 cX8_commonCutsOf 6 (some .int) p s m args meth c) (t0 : Nat) (hk0 : kd t0 = 9) (x1 : Int32) (x3 : Int32) (σ : St) {r : Int32} (KX0 : ∀ (v : Int32), r = v → ∀ (H : Heap) (locs : List Loc) (ls : Array Slot), Wd g s σ H locs → lv_has ls 6 [(2, .int (v))] → W p l e (rmm 3 72) s m args below meth c H locs 0 0 Q (F0 m 76 ls [])) : ∀ (n : Nat) (z : Int32 × Int32) {H : Heap} {locs : List Loc} {ls : Array Slot}, Wd g s σ H locs → lv_has ls 6 [(0, .ref (g.2.2 (t0))), (1, .int (x1)), (2, .int (z.1)), (3, .int (x3)), (4, .int (z.2))] → lp (f_X8_commonCutsOf_l15 t0 x1 x3 σ) n z = some r → W p l e (rmm 3 72) s m args below meth c H locs 0 0 Q (F0 m 15 ls []) := by
  intro n
  induction n with
  | zero => intro z H locs ls Y hl h; cases h
  | succ n ih =>
    intro z H locs ls Y hl h
    obtain ⟨w, h, hw⟩ := lps h
    have KB : ∀ (v0_ : Int32) (v1_ : Int32), w = .inl (v0_, v1_) → ∀ (H : Heap) (locs : List Loc) (ls : Array Slot), Wd g s σ H locs → lv_has ls 6 [(0, .ref (g.2.2 (t0))), (1, .int (x1)), (2, .int (v0_)), (3, .int (x3)), (4, .int (v1_))] → W p l e (rmm 3 72) s m args below meth c H locs 0 0 Q (F0 m 15 ls []) := fun v0_ v1_ e H locs ls Y hl => ih (v0_, v1_) Y hl (lpl hw e)
    have KX0 := fun (v : Int32) (e : w = .inr v) => KX0 v (lpr hw e)
    unfold f_X8_commonCutsOf_l15 at h
    refine lv_iload X.1 X.2.1 (dk T_X8_commonCutsOf 10 rfl) (lv_at hl 4 rfl) ?_
    refine lv_aload_n X.1 X.2.1 (dk T_X8_commonCutsOf 11 rfl) rfl (lv_at hl 0 rfl) ?_
    refine lv_iload_n X.1 X.2.1 (dk T_X8_commonCutsOf 12 rfl) rfl (lv_at hl 3 rfl) ?_
    obtain ⟨q2, hq2, h⟩ := bs h
    refine gvI (rest := [.int (z.2)]) X Y (c_X8_rowsOf t0 hk0 x3 σ hq2) cb_X8_38 hk0 hl.1 rfl rfl (Nat.le_of_ble_eq_true rfl) ⟨Nat.le_of_ble_eq_true rfl, Nat.le_of_ble_eq_true rfl⟩ (dk T_X8_commonCutsOf 13 rfl) (fun H locs Y => ?_)
    refine lv_icmp_ge (tgt := 76) X.1 X.2.1 (dk T_X8_commonCutsOf 14 rfl) rfl (fun c3 => ?_) (fun c3 => ?_)
    · replace h := ipos c3 h
      exact KX0 z.1 (Option.some.inj h).symm _ _ _ Y (lv_sub hl [2] rfl)
    · replace h := ineg c3 h
      refine lv_iconst (v := 0) X.1 X.2.1 (dk T_X8_commonCutsOf 15 rfl) ic_0 ?_
      refine lv_istore (lv' := [(5, .int (0)), (0, .ref (g.2.2 (t0))), (1, .int (x1)), (2, .int (z.1)), (3, .int (x3)), (4, .int (z.2))]) X.1 X.2.1 (dk T_X8_commonCutsOf 16 rfl) hl (Nat.le_of_ble_eq_true rfl) rfl (fun ls hl => ?_)
      obtain ⟨q9, hq9, h⟩ := bs h
      refine w_X8_commonCutsOf_l28 X t0 hk0 x1 x3 z.2 σ (fun v e H locs ls Y hl => ?_) FU (z.1, 0) Y (lv_sub hl [1, 2, 3, 4, 5, 0] rfl) hq9
      · obtain rfl := e
        refine lv_iinc (v := z.2 + 1) (lv' := [(4, .int (z.2 + 1)), (0, .ref (g.2.2 (t0))), (1, .int (x1)), (2, .int (q9)), (3, .int (x3))]) X.1 X.2.1 (dk T_X8_commonCutsOf 40 rfl) hl (k := 4) rfl (icx ic_1) (Nat.le_of_ble_eq_true rfl) rfl (fun ls hl => ?_)
        refine lv_goto (tgt := 15) X.1 X.2.1 (dk T_X8_commonCutsOf 41 rfl) rfl ?_
        exact KB q9 (z.2 + 1) (Option.some.inj h).symm _ _ _ Y (lv_sub hl [1, 2, 3, 4, 0] rfl)
def f_X8_commonCutsOf_0 (t0 : Nat) (x1 : Int32) (σ : St) : Option (Int32) :=
  (f_X9_get (t0 + 5) x1 1 σ).bind fun q1 => (lp (f_X8_commonCutsOf_l15 t0 x1 q1 σ) FU (0, 0)).bind fun q10 => some q10
set_option maxHeartbeats 4000000 in
set_option maxRecDepth 100000 in
theorem w_X8_commonCutsOf_0 (X : Cx g RX8 cX8_commonCutsOf 6 (some .int) p s m args meth c) (t0 : Nat) (hk0 : kd t0 = 9) (x1 : Int32) (σ : St) {w : Int32} (KR : ∀ (H : Heap) (locs : List Loc) (ls : Array Slot) (pc : Nat), Wd g s σ H locs → decode cX8_commonCutsOf pc = .ok (.ireturn, 1) → W p l e (rmm 3 72) s m args below meth c H locs 0 0 Q (F0 m pc ls [.int (w)])) {H : Heap} {locs : List Loc} {ls : Array Slot} (Y : Wd g s σ H locs) (hl : lv_has ls 6 [(0, .ref (g.2.2 (t0))), (1, .int (x1))]) (h : f_X8_commonCutsOf_0 t0 x1 σ = some w) : W p l e (rmm 3 72) s m args below meth c H locs 0 0 Q (F0 m 0 ls []) := by
  unfold f_X8_commonCutsOf_0 at h
  refine lv_iconst (v := 0) X.1 X.2.1 (dk T_X8_commonCutsOf 0 rfl) ic_0 ?_
  refine lv_istore_n (lv' := [(2, .int (0)), (0, .ref (g.2.2 (t0))), (1, .int (x1))]) X.1 X.2.1 (dk T_X8_commonCutsOf 1 rfl) rfl hl (Nat.le_of_ble_eq_true rfl) rfl (fun ls hl => ?_)
  refine lv_aload_n X.1 X.2.1 (dk T_X8_commonCutsOf 2 rfl) rfl (lv_at hl 1 rfl) ?_
  refine gg X Y fl_X8_23 hk0 rfl (dk T_X8_commonCutsOf 3 rfl) ?_
  refine lv_iload_n X.1 X.2.1 (dk T_X8_commonCutsOf 4 rfl) rfl (lv_at hl 2 rfl) ?_
  refine lv_iconst (v := 1) X.1 X.2.1 (dk T_X8_commonCutsOf 5 rfl) ic_1 ?_
  obtain ⟨q1, hq1, h⟩ := bs h
  refine gvI (rest := []) X Y (c_X9_get (t0 + 5) (ks5 hk0) x1 1 σ hq1) cb_X8_30 (ks5 hk0) hl.1 rfl rfl (Nat.le_of_ble_eq_true rfl) ⟨Nat.le_of_ble_eq_true rfl, Nat.le_of_ble_eq_true rfl⟩ (dk T_X8_commonCutsOf 6 rfl) (fun H locs Y => ?_)
  refine lv_istore_n (lv' := [(3, .int (q1)), (2, .int (0)), (0, .ref (g.2.2 (t0))), (1, .int (x1))]) X.1 X.2.1 (dk T_X8_commonCutsOf 7 rfl) rfl hl (Nat.le_of_ble_eq_true rfl) rfl (fun ls hl => ?_)
  refine lv_iconst (v := 0) X.1 X.2.1 (dk T_X8_commonCutsOf 8 rfl) ic_0 ?_
  refine lv_istore (lv' := [(4, .int (0)), (3, .int (q1)), (2, .int (0)), (0, .ref (g.2.2 (t0))), (1, .int (x1))]) X.1 X.2.1 (dk T_X8_commonCutsOf 9 rfl) hl (Nat.le_of_ble_eq_true rfl) rfl (fun ls hl => ?_)
  obtain ⟨q10, hq10, h⟩ := bs h
  refine w_X8_commonCutsOf_l15 X t0 hk0 x1 q1 σ (fun v e H locs ls Y hl => ?_) FU (0, 0) Y (lv_sub hl [3, 4, 2, 1, 0] rfl) hq10
  · obtain rfl := e
    refine lv_iload_n X.1 X.2.1 (dk T_X8_commonCutsOf 42 rfl) rfl (lv_at hl 0 rfl) ?_
    obtain rfl := Option.some.inj h
    exact KR _ _ _ _ Y (dk T_X8_commonCutsOf 43 rfl)
def f_X8_commonCutsOf (t0 : Nat) (x1 : Int32) (σ : St) : Option (Int32) := f_X8_commonCutsOf_0 t0 x1 σ
set_option maxHeartbeats 4000000 in
set_option maxRecDepth 100000 in
theorem c_X8_commonCutsOf {l : Launch} {g : Geo} (t0 : Nat) (hk0 : kd t0 = 9) (x1 : Int32) (σ : St) {w : Int32} (h : f_X8_commonCutsOf t0 x1 σ = some w) : CtI l yX8_commonCutsOf cX8_commonCutsOf 6 (some .int) (rmm 3 72) g [.ref (g.2.2 (t0)), .int (x1)] σ w σ := enI .int (by decide) rfl rfl (Nat.le_of_ble_eq_true rfl) (fun p e s m args below meth c Q X Y ls hl KR => w_X8_commonCutsOf_0 X t0 hk0 x1 σ KR Y hl h)
end
