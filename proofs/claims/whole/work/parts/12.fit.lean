theorem bp_6 : (Int8.ofInt 6).toInt32 = 6 := by decide
theorem bp_7 : (Int8.ofInt 7).toInt32 = 7 := by decide
theorem lc_0 : Int64.ofNat 0 = 0 := by decide
theorem cb_X1_21 : CBV RX1 21 yX8_columnsAfter cX8_columnsAfter 3 (some .int) 2 9 := ⟨⟨mw 19 14 rfl rfl, mw 0 16 rfl rfl, mw 17 4 rfl rfl, by decide, by decide, by decide +kernel⟩, mw 17 2 rfl rfl, mw 17 3 rfl rfl, TX8, 3, tyX8, cl_X8⟩
theorem cb_X1_27 : CBV RX1 27 yX8_coveredAfter cX8_coveredAfter 3 (some .int) 2 9 := ⟨⟨mw 19 15 rfl rfl, mw 0 16 rfl rfl, mw 17 8 rfl rfl, by decide, by decide, by decide +kernel⟩, mw 17 6 rfl rfl, mw 17 7 rfl rfl, TX8, 3, tyX8, cl_X8⟩
theorem cb_X1_30 : CBV RX1 30 yX8_rowsAfter cX8_rowsAfter 3 (some .int) 2 9 := ⟨⟨mw 19 16 rfl rfl, mw 0 16 rfl rfl, mw 19 19 rfl rfl, by decide, by decide, by decide +kernel⟩, mw 19 17 rfl rfl, mw 19 18 rfl rfl, TX8, 3, tyX8, cl_X8⟩
theorem cb_X1_33 : CBS RX1 33 yX3_covers cX3_covers 4 (some .boolean) 4 := ⟨⟨mw 19 20 rfl rfl, mw 8 15 rfl rfl, mw 9 6 rfl rfl, by decide, by decide, by decide +kernel⟩, mw 9 5 rfl rfl⟩
theorem cb_X1_39 : CBV RX1 39 yX1_isFree cX1_isFree 11 (some .boolean) 4 3 := ⟨⟨mw 19 21 rfl rfl, mw 0 31 rfl rfl, mw 19 24 rfl rfl, by decide, by decide, by decide +kernel⟩, mw 19 22 rfl rfl, mw 19 23 rfl rfl, TX1, 3, tyX1, cl_X1⟩
theorem cb_X1_43 : CBV RX1 43 yX8_columnsOf cX8_columnsOf 2 (some .int) 1 9 := ⟨⟨mw 19 25 rfl rfl, mw 0 16 rfl rfl, mw 11 1 rfl rfl, by decide, by decide, by decide +kernel⟩, mw 10 31 rfl rfl, mw 11 0 rfl rfl, TX8, 3, tyX8, cl_X8⟩
theorem cb_X1_47 : CBV RX1 47 yX8_rowsOf cX8_rowsOf 2 (some .int) 1 9 := ⟨⟨mw 19 26 rfl rfl, mw 0 16 rfl rfl, mw 11 9 rfl rfl, by decide, by decide, by decide +kernel⟩, mw 11 7 rfl rfl, mw 11 8 rfl rfl, TX8, 3, tyX8, cl_X8⟩
theorem cb_X1_50 : CBS RX1 50 yX1_sideOf cX1_sideOf 6 (some .int) 4 := ⟨⟨mw 19 27 rfl rfl, mw 0 31 rfl rfl, mw 19 29 rfl rfl, by decide, by decide, by decide +kernel⟩, mw 19 28 rfl rfl⟩
theorem cb_X1_54 : CBV RX1 54 yX1_block cX1_block 3 (some .boolean) 2 3 := ⟨⟨mw 19 30 rfl rfl, mw 0 31 rfl rfl, mw 20 1 rfl rfl, by decide, by decide, by decide +kernel⟩, mw 19 31 rfl rfl, mw 20 0 rfl rfl, TX1, 3, tyX1, cl_X1⟩
theorem cb_X1_58 : CBV RX1 58 yX8_onCell cX8_onCell 3 (some .int) 2 9 := ⟨⟨mw 20 2 rfl rfl, mw 0 16 rfl rfl, mw 11 13 rfl rfl, by decide, by decide, by decide +kernel⟩, mw 11 11 rfl rfl, mw 11 12 rfl rfl, TX8, 3, tyX8, cl_X8⟩
theorem cb_X7_40 : CBV RX7 40 yX9_get cX9_get 4 (some .int) 2 10 := ⟨⟨mw 25 27 rfl rfl, mw 1 24 rfl rfl, mw 11 5 rfl rfl, by decide, by decide, by decide +kernel⟩, mw 11 3 rfl rfl, mw 11 4 rfl rfl, TX9, 3, tyX9, cl_X9⟩
theorem cb_X7_49 : CBV RX7 49 yX9_isFull cX9_isFull 1 (some .boolean) 0 10 := ⟨⟨mw 25 28 rfl rfl, mw 1 24 rfl rfl, mw 5 23 rfl rfl, by decide, by decide, by decide +kernel⟩, mw 5 21 rfl rfl, mw 5 22 rfl rfl, TX9, 3, tyX9, cl_X9⟩
theorem cb_X7_56 : CBV RX7 56 yX9_size cX9_size 1 (some .int) 0 10 := ⟨⟨mw 25 29 rfl rfl, mw 1 24 rfl rfl, mw 22 7 rfl rfl, by decide, by decide, by decide +kernel⟩, mw 22 5 rfl rfl, mw 22 6 rfl rfl, TX9, 3, tyX9, cl_X9⟩
theorem cb_X7_60 : CBV RX7 60 yX7_lookOn cX7_lookOn 8 none 3 8 := ⟨⟨mw 25 30 rfl rfl, mw 1 3 rfl rfl, mw 26 1 rfl rfl, by decide, by decide, by decide +kernel⟩, mw 25 31 rfl rfl, mw 26 0 rfl rfl, TX7, 6, tyX7, cl_X7⟩
theorem cb_X7_64 : CBV RX7 64 yX8_createPart cX8_createPart 11 (some .int) 5 9 := ⟨⟨mw 26 18 rfl rfl, mw 0 16 rfl rfl, mw 20 18 rfl rfl, by decide, by decide, by decide +kernel⟩, mw 20 16 rfl rfl, mw 20 17 rfl rfl, TX8, 3, tyX8, cl_X8⟩
theorem cb_X7_68 : CBV RX7 68 yX8_rowsOf cX8_rowsOf 2 (some .int) 1 9 := ⟨⟨mw 26 2 rfl rfl, mw 0 16 rfl rfl, mw 11 9 rfl rfl, by decide, by decide, by decide +kernel⟩, mw 11 7 rfl rfl, mw 11 8 rfl rfl, TX8, 3, tyX8, cl_X8⟩
theorem cb_X7_72 : CBV RX7 72 yX8_columnsOf cX8_columnsOf 2 (some .int) 1 9 := ⟨⟨mw 26 3 rfl rfl, mw 0 16 rfl rfl, mw 11 1 rfl rfl, by decide, by decide, by decide +kernel⟩, mw 10 31 rfl rfl, mw 11 0 rfl rfl, TX8, 3, tyX8, cl_X8⟩
theorem cb_X7_75 : CBV RX7 75 yX8_grainAllows cX8_grainAllows 7 (some .boolean) 3 9 := ⟨⟨mw 26 4 rfl rfl, mw 0 16 rfl rfl, mw 18 29 rfl rfl, by decide, by decide, by decide +kernel⟩, mw 18 27 rfl rfl, mw 18 28 rfl rfl, TX8, 3, tyX8, cl_X8⟩
theorem cb_X7_79 : CBV RX7 79 yX1_isFitting cX1_isFitting 11 (some .boolean) 6 3 := ⟨⟨mw 26 5 rfl rfl, mw 0 31 rfl rfl, mw 19 13 rfl rfl, by decide, by decide, by decide +kernel⟩, mw 19 11 rfl rfl, mw 19 12 rfl rfl, TX1, 3, tyX1, cl_X1⟩
theorem cb_X7_83 : CBS RX7 83 yX7_newCommonCuts cX7_newCommonCuts 11 (some .int) 6 := ⟨⟨mw 26 6 rfl rfl, mw 1 3 rfl rfl, mw 26 8 rfl rfl, by decide, by decide, by decide +kernel⟩, mw 26 7 rfl rfl⟩
theorem cb_X7_87 : CBV RX7 87 yX8_columnsAfter cX8_columnsAfter 3 (some .int) 2 9 := ⟨⟨mw 26 9 rfl rfl, mw 0 16 rfl rfl, mw 17 4 rfl rfl, by decide, by decide, by decide +kernel⟩, mw 17 2 rfl rfl, mw 17 3 rfl rfl, TX8, 3, tyX8, cl_X8⟩
theorem cb_X7_90 : CBV RX7 90 yX8_coveredAfter cX8_coveredAfter 3 (some .int) 2 9 := ⟨⟨mw 26 10 rfl rfl, mw 0 16 rfl rfl, mw 17 8 rfl rfl, by decide, by decide, by decide +kernel⟩, mw 17 6 rfl rfl, mw 17 7 rfl rfl, TX8, 3, tyX8, cl_X8⟩
theorem cb_X7_93 : CBV RX7 93 yX8_rowsAfter cX8_rowsAfter 3 (some .int) 2 9 := ⟨⟨mw 26 11 rfl rfl, mw 0 16 rfl rfl, mw 19 19 rfl rfl, by decide, by decide, by decide +kernel⟩, mw 19 17 rfl rfl, mw 19 18 rfl rfl, TX8, 3, tyX8, cl_X8⟩
theorem cb_X7_96 : CBS RX7 96 yX3_covers cX3_covers 4 (some .boolean) 4 := ⟨⟨mw 26 12 rfl rfl, mw 8 15 rfl rfl, mw 9 6 rfl rfl, by decide, by decide, by decide +kernel⟩, mw 9 5 rfl rfl⟩
theorem cb_X7_102 : CBV RX7 102 yX8_otherPartsBeside cX8_otherPartsBeside 5 (some .int) 4 9 := ⟨⟨mw 26 13 rfl rfl, mw 0 16 rfl rfl, mw 23 23 rfl rfl, by decide, by decide, by decide +kernel⟩, mw 23 21 rfl rfl, mw 23 22 rfl rfl, TX8, 3, tyX8, cl_X8⟩
section
variable {p : Program} {l : Launch} {e : Env} {s : State} {m : MethodId} {args : Array Value} {below : List Frame} {meth : Method} {c : Code} {Q : State → Prop} {g : Geo}
def I_X1_sideOf : List (Nat × Instr × Nat) := [(0, .lload 4, 2), (2, .lconst 0, 1), (3, .lcmp, 1), (4, .ifCond .ge 5, 3), (7, .iconst 0, 1), (8, .ireturn, 1), (9, .lload_n 2, 1), (10, .iload_n 0, 1), (11, .i2l, 1), (12, .lcmp, 1), (13, .ifCond .lt 5, 3), (16, .iconst 1, 1), (17, .ireturn, 1), (18, .lload 4, 2), (20, .iload_n 1, 1), (21, .i2l, 1), (22, .lcmp, 1), (23, .ifCond .lt 5, 3), (26, .iconst 2, 1), (27, .ireturn, 1), (28, .lload_n 2, 1), (29, .lconst 0, 1), (30, .lcmp, 1), (31, .ifCond .ge 7, 3), (34, .iconst 3, 1), (35, .goto 4, 3), (38, .iconst 4, 1), (39, .ireturn, 1)]
set_option maxRecDepth 100000 in
theorem T_X1_sideOf : ∀ q ∈ I_X1_sideOf, decode cX1_sideOf q.1 = .ok (q.2.1, q.2.2) := by decide +kernel
def f_X1_sideOf_0 (x0 : Int32) (x1 : Int32) (x2 : Int64) (x4 : Int64) : Option (Int32) :=
  if 0 ≤ (lg_cmp x4 0) then if (lg_cmp x2 x0.toInt64) < 0 then if (lg_cmp x4 x1.toInt64) < 0 then if 0 ≤ (lg_cmp x2 0) then some 4 else some 3 else some 2 else some 1 else some 0
set_option maxHeartbeats 4000000 in
set_option maxRecDepth 100000 in
theorem w_X1_sideOf_0 (X : Cx g RX1 cX1_sideOf 6 (some .int) p s m args meth c) (x0 : Int32) (x1 : Int32) (x2 : Int64) (x4 : Int64) (σ : St) {w : Int32} (KR : ∀ (H : Heap) (locs : List Loc) (ls : Array Slot) (pc : Nat), Wd g s σ H locs → decode cX1_sideOf pc = .ok (.ireturn, 1) → W p l e (rmm 0 0) s m args below meth c H locs 0 0 Q (F0 m pc ls [.int (w)])) {H : Heap} {locs : List Loc} {ls : Array Slot} (Y : Wd g s σ H locs) (hl : lv_has ls 6 [(0, .int (x0)), (1, .int (x1)), (2, .long (x2)), (4, .long (x4))]) (h : f_X1_sideOf_0 x0 x1 x2 x4 = some w) : W p l e (rmm 0 0) s m args below meth c H locs 0 0 Q (F0 m 0 ls []) := by
  unfold f_X1_sideOf_0 at h
  refine lv_lload X.1 X.2.1 (dk T_X1_sideOf 0 rfl) (lv_at hl 3 rfl) ?_
  refine lv_lconst (v := 0) X.1 X.2.1 (dk T_X1_sideOf 1 rfl) lc_0 ?_
  refine W.lcmp X.1 X.2.1 (dk T_X1_sideOf 2 rfl) ?_
  refine lv_if_ge (tgt := 9) X.1 X.2.1 (dk T_X1_sideOf 3 rfl) rfl (fun c1 => ?_) (fun c1 => ?_)
  · replace h := ipos c1 h
    refine lv_lload_n X.1 X.2.1 (dk T_X1_sideOf 6 rfl) rfl (lv_at hl 2 rfl) ?_
    refine lv_iload_n X.1 X.2.1 (dk T_X1_sideOf 7 rfl) rfl (lv_at hl 0 rfl) ?_
    refine lv_i2l X.1 X.2.1 (dk T_X1_sideOf 8 rfl) rfl ?_
    refine W.lcmp X.1 X.2.1 (dk T_X1_sideOf 9 rfl) ?_
    refine lv_if_lt (tgt := 18) X.1 X.2.1 (dk T_X1_sideOf 10 rfl) rfl (fun c2 => ?_) (fun c2 => ?_)
    · replace h := ipos c2 h
      refine lv_lload X.1 X.2.1 (dk T_X1_sideOf 13 rfl) (lv_at hl 3 rfl) ?_
      refine lv_iload_n X.1 X.2.1 (dk T_X1_sideOf 14 rfl) rfl (lv_at hl 1 rfl) ?_
      refine lv_i2l X.1 X.2.1 (dk T_X1_sideOf 15 rfl) rfl ?_
      refine W.lcmp X.1 X.2.1 (dk T_X1_sideOf 16 rfl) ?_
      refine lv_if_lt (tgt := 28) X.1 X.2.1 (dk T_X1_sideOf 17 rfl) rfl (fun c3 => ?_) (fun c3 => ?_)
      · replace h := ipos c3 h
        refine lv_lload_n X.1 X.2.1 (dk T_X1_sideOf 20 rfl) rfl (lv_at hl 2 rfl) ?_
        refine lv_lconst (v := 0) X.1 X.2.1 (dk T_X1_sideOf 21 rfl) lc_0 ?_
        refine W.lcmp X.1 X.2.1 (dk T_X1_sideOf 22 rfl) ?_
        refine lv_if_ge (tgt := 38) X.1 X.2.1 (dk T_X1_sideOf 23 rfl) rfl (fun c4 => ?_) (fun c4 => ?_)
        · replace h := ipos c4 h
          refine lv_iconst (v := 4) X.1 X.2.1 (dk T_X1_sideOf 26 rfl) ic_4 ?_
          obtain rfl := Option.some.inj h
          exact KR _ _ _ _ Y (dk T_X1_sideOf 27 rfl)
        · replace h := ineg c4 h
          refine lv_iconst (v := 3) X.1 X.2.1 (dk T_X1_sideOf 24 rfl) ic_3 ?_
          refine lv_goto (tgt := 39) X.1 X.2.1 (dk T_X1_sideOf 25 rfl) rfl ?_
          obtain rfl := Option.some.inj h
          exact KR _ _ _ _ Y (dk T_X1_sideOf 27 rfl)
      · replace h := ineg c3 h
        refine lv_iconst (v := 2) X.1 X.2.1 (dk T_X1_sideOf 18 rfl) ic_2 ?_
        obtain rfl := Option.some.inj h
        exact KR _ _ _ _ Y (dk T_X1_sideOf 19 rfl)
    · replace h := ineg c2 h
      refine lv_iconst (v := 1) X.1 X.2.1 (dk T_X1_sideOf 11 rfl) ic_1 ?_
      obtain rfl := Option.some.inj h
      exact KR _ _ _ _ Y (dk T_X1_sideOf 12 rfl)
  · replace h := ineg c1 h
    refine lv_iconst (v := 0) X.1 X.2.1 (dk T_X1_sideOf 4 rfl) ic_0 ?_
    obtain rfl := Option.some.inj h
    exact KR _ _ _ _ Y (dk T_X1_sideOf 5 rfl)
def f_X1_sideOf (x0 : Int32) (x1 : Int32) (x2 : Int64) (x4 : Int64) : Option (Int32) := f_X1_sideOf_0 x0 x1 x2 x4
set_option maxHeartbeats 4000000 in
set_option maxRecDepth 100000 in
theorem c_X1_sideOf {l : Launch} {g : Geo} (x0 : Int32) (x1 : Int32) (x2 : Int64) (x4 : Int64) (σ : St) {w : Int32} (h : f_X1_sideOf x0 x1 x2 x4 = some w) : CtI l yX1_sideOf cX1_sideOf 6 (some .int) (rmm 0 0) g [.int (x0), .int (x1), .long (x2), .long (x4)] σ w σ := enI .int (by decide) rfl rfl (Nat.le_of_ble_eq_true rfl) (fun p e s m args below meth c Q X Y ls hl KR => w_X1_sideOf_0 X x0 x1 x2 x4 σ KR Y hl h)
def I_X1_block : List (Nat × Instr × Nat) := [(0, .aload_n 0, 1), (1, .iload_n 1, 1), (2, .putfield 15, 3), (5, .aload_n 0, 1), (6, .iload_n 2, 1), (7, .putfield 18, 3), (10, .iconst 0, 1), (11, .ireturn, 1)]
set_option maxRecDepth 100000 in
theorem T_X1_block : ∀ q ∈ I_X1_block, decode cX1_block q.1 = .ok (q.2.1, q.2.2) := by decide +kernel
def f_X1_block_0 (t0 : Nat) (x1 : Int32) (x2 : Int32) (σ : St) : Option (Int32 × St) :=
  some (0, up (up σ t0 1 x1) t0 2 x2)
set_option maxHeartbeats 4000000 in
set_option maxRecDepth 100000 in
theorem w_X1_block_0 (X : Cx g RX1 cX1_block 3 (some .boolean) p s m args meth c) (t0 : Nat) (hk0 : kd t0 = 3) (x1 : Int32) (x2 : Int32) (σ : St) {w : Int32 × St} (KR : ∀ (H : Heap) (locs : List Loc) (ls : Array Slot) (pc : Nat), Wd g s w.2 H locs → decode cX1_block pc = .ok (.ireturn, 1) → W p l e (rmm 0 0) s m args below meth c H locs 0 0 Q (F0 m pc ls [.int (w.1)])) {H : Heap} {locs : List Loc} {ls : Array Slot} (Y : Wd g s σ H locs) (hl : lv_has ls 3 [(0, .ref (g.2.2 (t0))), (1, .int (x1)), (2, .int (x2))]) (h : f_X1_block_0 t0 x1 x2 σ = some w) : W p l e (rmm 0 0) s m args below meth c H locs 0 0 Q (F0 m 0 ls []) := by
  unfold f_X1_block_0 at h
  refine lv_aload_n X.1 X.2.1 (dk T_X1_block 0 rfl) rfl (lv_at hl 0 rfl) ?_
  refine lv_iload_n X.1 X.2.1 (dk T_X1_block 1 rfl) rfl (lv_at hl 1 rfl) ?_
  refine gp X Y fp_X1_15 hk0 (nar_int _) (dk T_X1_block 2 rfl) (fun H locs Y => ?_)
  refine lv_aload_n X.1 X.2.1 (dk T_X1_block 3 rfl) rfl (lv_at hl 0 rfl) ?_
  refine lv_iload_n X.1 X.2.1 (dk T_X1_block 4 rfl) rfl (lv_at hl 2 rfl) ?_
  refine gp X Y fp_X1_18 hk0 (nar_int _) (dk T_X1_block 5 rfl) (fun H locs Y => ?_)
  refine lv_iconst (v := 0) X.1 X.2.1 (dk T_X1_block 6 rfl) ic_0 ?_
  obtain rfl := Option.some.inj h
  exact KR _ _ _ _ Y (dk T_X1_block 7 rfl)
def f_X1_block (t0 : Nat) (x1 : Int32) (x2 : Int32) (σ : St) : Option (Int32 × St) := bzW (f_X1_block_0 t0 x1 x2 σ)
set_option maxHeartbeats 4000000 in
set_option maxRecDepth 100000 in
theorem c_X1_block {l : Launch} {g : Geo} (t0 : Nat) (hk0 : kd t0 = 3) (x1 : Int32) (x2 : Int32) (σ : St) {w : Int32 × St} (h : f_X1_block t0 x1 x2 σ = some w) : CtI l yX1_block cX1_block 3 (some .boolean) (rmm 0 0) g [.ref (g.2.2 (t0)), .int (x1), .int (x2)] σ w.1 w.2 := by
  obtain ⟨h, hz⟩ := bzW_s h
  exact enI .boolean (by decide) rfl (bz_n hz) (Nat.le_of_ble_eq_true rfl) (fun p e s m args below meth c Q X Y ls hl KR => w_X1_block_0 X t0 hk0 x1 x2 σ KR Y hl h)
def I_X1_isFree : List (Nat × Instr × Nat) := [(0, .aload_n 1, 1), (1, .iload_n 2, 1), (2, .invokevirtual 43, 3), (5, .istore 7, 2), (7, .iload 7, 2), (9, .aload_n 1, 1), (10, .iload_n 2, 1), (11, .invokevirtual 47, 3), (14, .lload_n 3, 1), (15, .lload 5, 2), (17, .invokestatic 50, 3), (20, .istore 8, 2), (22, .iload 8, 2), (24, .iconst 4, 1), (25, .if_icmp .eq 12, 3), (28, .aload_n 0, 1), (29, .bipush 6, 2), (31, .iload 8, 2), (33, .invokevirtual 54, 3), (36, .ireturn, 1), (37, .lload_n 3, 1), (38, .iload 7, 2), (40, .i2l, 1), (41, .lload 5, 2), (43, .lmul, 1), (44, .ladd, 1), (45, .l2i, 1), (46, .istore 9, 2), (48, .aload_n 1, 1), (49, .iload_n 2, 1), (50, .iload 9, 2), (52, .invokevirtual 58, 3), (55, .istore 10, 2), (57, .iload 10, 2), (59, .iconst (-1), 1), (60, .if_icmp .ne 5, 3), (63, .iconst 1, 1), (64, .ireturn, 1), (65, .iload 10, 2), (67, .bipush (-2), 2), (69, .if_icmp .ne 14, 3), (72, .aload_n 0, 1), (73, .bipush 7, 2), (75, .iload 9, 2), (77, .invokevirtual 54, 3), (80, .goto 11, 3), (83, .aload_n 0, 1), (84, .bipush 8, 2), (86, .iload 10, 2), (88, .invokevirtual 54, 3), (91, .ireturn, 1)]
set_option maxRecDepth 100000 in
theorem T_X1_isFree : ∀ q ∈ I_X1_isFree, decode cX1_isFree q.1 = .ok (q.2.1, q.2.2) := by decide +kernel
def f_X1_isFree_0 (t0 : Nat) (t1 : Nat) (x2 : Int32) (x3 : Int64) (x5 : Int64) (σ : St) : Option (Int32 × St) :=
  (f_X8_columnsOf t1 x2 σ).bind fun q1 => (f_X8_rowsOf t1 x2 σ).bind fun q2 => (f_X1_sideOf q1 q2 x3 x5).bind fun q3 => if q3 = 4 then (f_X8_onCell t1 x2 ((x3 + (q1.toInt64 * x5)).toInt32) σ).bind fun q5 => if q5 = (-1) then some (1, σ) else if q5 = (-2) then (f_X1_block t0 7 ((x3 + (q1.toInt64 * x5)).toInt32) σ).bind fun q9 => some (q9.1, q9.2) else (f_X1_block t0 8 q5 σ).bind fun q8 => some (q8.1, q8.2) else (f_X1_block t0 6 q3 σ).bind fun q10 => some (q10.1, q10.2)
set_option maxHeartbeats 4000000 in
set_option maxRecDepth 100000 in
theorem w_X1_isFree_0 (X : Cx g RX1 cX1_isFree 11 (some .boolean) p s m args meth c) (t0 : Nat) (t1 : Nat) (hk0 : kd t0 = 3) (hk1 : kd t1 = 9) (x2 : Int32) (x3 : Int64) (x5 : Int64) (σ : St) {w : Int32 × St} (KR : ∀ (H : Heap) (locs : List Loc) (ls : Array Slot) (pc : Nat), Wd g s w.2 H locs → decode cX1_isFree pc = .ok (.ireturn, 1) → W p l e (rmm 2 45) s m args below meth c H locs 0 0 Q (F0 m pc ls [.int (w.1)])) {H : Heap} {locs : List Loc} {ls : Array Slot} (Y : Wd g s σ H locs) (hl : lv_has ls 11 [(0, .ref (g.2.2 (t0))), (1, .ref (g.2.2 (t1))), (2, .int (x2)), (3, .long (x3)), (5, .long (x5))]) (h : f_X1_isFree_0 t0 t1 x2 x3 x5 σ = some w) : W p l e (rmm 2 45) s m args below meth c H locs 0 0 Q (F0 m 0 ls []) := by
  unfold f_X1_isFree_0 at h
  refine lv_aload_n X.1 X.2.1 (dk T_X1_isFree 0 rfl) rfl (lv_at hl 1 rfl) ?_
  refine lv_iload_n X.1 X.2.1 (dk T_X1_isFree 1 rfl) rfl (lv_at hl 2 rfl) ?_
  obtain ⟨q1, hq1, h⟩ := bs h
  refine gvI (rest := []) X Y (c_X8_columnsOf t1 hk1 x2 σ hq1) cb_X1_43 hk1 hl.1 rfl rfl (Nat.le_of_ble_eq_true rfl) ⟨Nat.le_of_ble_eq_true rfl, Nat.le_of_ble_eq_true rfl⟩ (dk T_X1_isFree 2 rfl) (fun H locs Y => ?_)
  refine lv_istore (lv' := [(7, .int (q1)), (0, .ref (g.2.2 (t0))), (1, .ref (g.2.2 (t1))), (2, .int (x2)), (3, .long (x3)), (5, .long (x5))]) X.1 X.2.1 (dk T_X1_isFree 3 rfl) hl (Nat.le_of_ble_eq_true rfl) rfl (fun ls hl => ?_)
  refine lv_iload X.1 X.2.1 (dk T_X1_isFree 4 rfl) (lv_at hl 0 rfl) ?_
  refine lv_aload_n X.1 X.2.1 (dk T_X1_isFree 5 rfl) rfl (lv_at hl 2 rfl) ?_
  refine lv_iload_n X.1 X.2.1 (dk T_X1_isFree 6 rfl) rfl (lv_at hl 3 rfl) ?_
  obtain ⟨q2, hq2, h⟩ := bs h
  refine gvI (rest := [.int (q1)]) X Y (c_X8_rowsOf t1 hk1 x2 σ hq2) cb_X1_47 hk1 hl.1 rfl rfl (Nat.le_of_ble_eq_true rfl) ⟨Nat.le_of_ble_eq_true rfl, Nat.le_of_ble_eq_true rfl⟩ (dk T_X1_isFree 7 rfl) (fun H locs Y => ?_)
  refine lv_lload_n X.1 X.2.1 (dk T_X1_isFree 8 rfl) rfl (lv_at hl 4 rfl) ?_
  refine lv_lload X.1 X.2.1 (dk T_X1_isFree 9 rfl) (lv_at hl 5 rfl) ?_
  obtain ⟨q3, hq3, h⟩ := bs h
  refine gsI (rest := []) X Y (c_X1_sideOf q1 q2 x3 x5 σ hq3) cb_X1_50 hl.1 rfl rfl (Nat.le_of_ble_eq_true rfl) ⟨Nat.le_of_ble_eq_true rfl, Nat.le_of_ble_eq_true rfl⟩ (dk T_X1_isFree 10 rfl) (fun H locs Y => ?_)
  refine lv_istore (lv' := [(8, .int (q3)), (7, .int (q1)), (0, .ref (g.2.2 (t0))), (1, .ref (g.2.2 (t1))), (2, .int (x2)), (3, .long (x3)), (5, .long (x5))]) X.1 X.2.1 (dk T_X1_isFree 11 rfl) hl (Nat.le_of_ble_eq_true rfl) rfl (fun ls hl => ?_)
  refine lv_iload X.1 X.2.1 (dk T_X1_isFree 12 rfl) (lv_at hl 0 rfl) ?_
  refine lv_iconst (v := 4) X.1 X.2.1 (dk T_X1_isFree 13 rfl) ic_4 ?_
  refine lv_icmp_eq (tgt := 37) X.1 X.2.1 (dk T_X1_isFree 14 rfl) rfl (fun c4 => ?_) (fun c4 => ?_)
  · replace h := ipos c4 h
    refine lv_lload_n X.1 X.2.1 (dk T_X1_isFree 20 rfl) rfl (lv_at hl 5 rfl) ?_
    refine lv_iload X.1 X.2.1 (dk T_X1_isFree 21 rfl) (lv_at hl 1 rfl) ?_
    refine lv_i2l X.1 X.2.1 (dk T_X1_isFree 22 rfl) rfl ?_
    refine lv_lload X.1 X.2.1 (dk T_X1_isFree 23 rfl) (lv_at hl 6 rfl) ?_
    refine lv_lmul X.1 X.2.1 (dk T_X1_isFree 24 rfl) ?_
    refine lv_ladd X.1 X.2.1 (dk T_X1_isFree 25 rfl) ?_
    refine lv_l2i X.1 X.2.1 (dk T_X1_isFree 26 rfl) rfl ?_
    refine lv_istore (lv' := [(9, .int ((x3 + (q1.toInt64 * x5)).toInt32)), (8, .int (q3)), (7, .int (q1)), (0, .ref (g.2.2 (t0))), (1, .ref (g.2.2 (t1))), (2, .int (x2)), (3, .long (x3)), (5, .long (x5))]) X.1 X.2.1 (dk T_X1_isFree 27 rfl) hl (Nat.le_of_ble_eq_true rfl) rfl (fun ls hl => ?_)
    refine lv_aload_n X.1 X.2.1 (dk T_X1_isFree 28 rfl) rfl (lv_at hl 4 rfl) ?_
    refine lv_iload_n X.1 X.2.1 (dk T_X1_isFree 29 rfl) rfl (lv_at hl 5 rfl) ?_
    refine lv_iload X.1 X.2.1 (dk T_X1_isFree 30 rfl) (lv_at hl 0 rfl) ?_
    obtain ⟨q5, hq5, h⟩ := bs h
    refine gvI (rest := []) X Y (c_X8_onCell t1 hk1 x2 ((x3 + (q1.toInt64 * x5)).toInt32) σ hq5) cb_X1_58 hk1 hl.1 rfl rfl (Nat.le_of_ble_eq_true rfl) ⟨Nat.le_of_ble_eq_true rfl, Nat.le_of_ble_eq_true rfl⟩ (dk T_X1_isFree 31 rfl) (fun H locs Y => ?_)
    refine lv_istore (lv' := [(10, .int (q5)), (9, .int ((x3 + (q1.toInt64 * x5)).toInt32)), (8, .int (q3)), (7, .int (q1)), (0, .ref (g.2.2 (t0))), (1, .ref (g.2.2 (t1))), (2, .int (x2)), (3, .long (x3)), (5, .long (x5))]) X.1 X.2.1 (dk T_X1_isFree 32 rfl) hl (Nat.le_of_ble_eq_true rfl) rfl (fun ls hl => ?_)
    refine lv_iload X.1 X.2.1 (dk T_X1_isFree 33 rfl) (lv_at hl 0 rfl) ?_
    refine lv_iconst (v := (-1)) X.1 X.2.1 (dk T_X1_isFree 34 rfl) ic_m1 ?_
    refine lv_icmp_ne (tgt := 65) X.1 X.2.1 (dk T_X1_isFree 35 rfl) rfl (fun c6 => ?_) (fun c6 => ?_)
    · replace h := ineg c6 h
      refine lv_iload X.1 X.2.1 (dk T_X1_isFree 38 rfl) (lv_at hl 0 rfl) ?_
      refine lv_bipush (v := (-2)) X.1 X.2.1 (dk T_X1_isFree 39 rfl) bp_m2 ?_
      refine lv_icmp_ne (tgt := 83) X.1 X.2.1 (dk T_X1_isFree 40 rfl) rfl (fun c7 => ?_) (fun c7 => ?_)
      · replace h := ineg c7 h
        refine lv_aload_n X.1 X.2.1 (dk T_X1_isFree 46 rfl) rfl (lv_at hl 4 rfl) ?_
        refine lv_bipush (v := 8) X.1 X.2.1 (dk T_X1_isFree 47 rfl) bp_8 ?_
        refine lv_iload X.1 X.2.1 (dk T_X1_isFree 48 rfl) (lv_at hl 0 rfl) ?_
        obtain ⟨q8, hq8, h⟩ := bs h
        refine gvI (rest := []) X Y (c_X1_block t0 hk0 8 q5 σ hq8) cb_X1_54 hk0 hl.1 rfl rfl (Nat.le_of_ble_eq_true rfl) ⟨Nat.le_of_ble_eq_true rfl, Nat.le_of_ble_eq_true rfl⟩ (dk T_X1_isFree 49 rfl) (fun H locs Y => ?_)
        obtain rfl := Option.some.inj h
        exact KR _ _ _ _ Y (dk T_X1_isFree 50 rfl)
      · replace h := ipos c7 h
        refine lv_aload_n X.1 X.2.1 (dk T_X1_isFree 41 rfl) rfl (lv_at hl 4 rfl) ?_
        refine lv_bipush (v := 7) X.1 X.2.1 (dk T_X1_isFree 42 rfl) bp_7 ?_
        refine lv_iload X.1 X.2.1 (dk T_X1_isFree 43 rfl) (lv_at hl 1 rfl) ?_
        obtain ⟨q9, hq9, h⟩ := bs h
        refine gvI (rest := []) X Y (c_X1_block t0 hk0 7 ((x3 + (q1.toInt64 * x5)).toInt32) σ hq9) cb_X1_54 hk0 hl.1 rfl rfl (Nat.le_of_ble_eq_true rfl) ⟨Nat.le_of_ble_eq_true rfl, Nat.le_of_ble_eq_true rfl⟩ (dk T_X1_isFree 44 rfl) (fun H locs Y => ?_)
        refine lv_goto (tgt := 91) X.1 X.2.1 (dk T_X1_isFree 45 rfl) rfl ?_
        obtain rfl := Option.some.inj h
        exact KR _ _ _ _ Y (dk T_X1_isFree 50 rfl)
    · replace h := ipos c6 h
      refine lv_iconst (v := 1) X.1 X.2.1 (dk T_X1_isFree 36 rfl) ic_1 ?_
      obtain rfl := Option.some.inj h
      exact KR _ _ _ _ Y (dk T_X1_isFree 37 rfl)
  · replace h := ineg c4 h
    refine lv_aload_n X.1 X.2.1 (dk T_X1_isFree 15 rfl) rfl (lv_at hl 2 rfl) ?_
    refine lv_bipush (v := 6) X.1 X.2.1 (dk T_X1_isFree 16 rfl) bp_6 ?_
    refine lv_iload X.1 X.2.1 (dk T_X1_isFree 17 rfl) (lv_at hl 0 rfl) ?_
    obtain ⟨q10, hq10, h⟩ := bs h
    refine gvI (rest := []) X Y (c_X1_block t0 hk0 6 q3 σ hq10) cb_X1_54 hk0 hl.1 rfl rfl (Nat.le_of_ble_eq_true rfl) ⟨Nat.le_of_ble_eq_true rfl, Nat.le_of_ble_eq_true rfl⟩ (dk T_X1_isFree 18 rfl) (fun H locs Y => ?_)
    obtain rfl := Option.some.inj h
    exact KR _ _ _ _ Y (dk T_X1_isFree 19 rfl)
def f_X1_isFree (t0 : Nat) (t1 : Nat) (x2 : Int32) (x3 : Int64) (x5 : Int64) (σ : St) : Option (Int32 × St) := bzW (f_X1_isFree_0 t0 t1 x2 x3 x5 σ)
set_option maxHeartbeats 4000000 in
set_option maxRecDepth 100000 in
theorem c_X1_isFree {l : Launch} {g : Geo} (t0 : Nat) (t1 : Nat) (hk0 : kd t0 = 3) (hk1 : kd t1 = 9) (x2 : Int32) (x3 : Int64) (x5 : Int64) (σ : St) {w : Int32 × St} (h : f_X1_isFree t0 t1 x2 x3 x5 σ = some w) : CtI l yX1_isFree cX1_isFree 11 (some .boolean) (rmm 2 45) g [.ref (g.2.2 (t0)), .ref (g.2.2 (t1)), .int (x2), .long (x3), .long (x5)] σ w.1 w.2 := by
  obtain ⟨h, hz⟩ := bzW_s h
  exact enI .boolean (by decide) rfl (bz_n hz) (Nat.le_of_ble_eq_true rfl) (fun p e s m args below meth c Q X Y ls hl KR => w_X1_isFree_0 X t0 t1 hk0 hk1 x2 x3 x5 σ KR Y hl h)
def I_X1_isFitting : List (Nat × Instr × Nat) := [(0, .aload_n 1, 1), (1, .iload_n 2, 1), (2, .iload 6, 2), (4, .invokevirtual 21, 3), (7, .istore 7, 2), (9, .aload_n 1, 1), (10, .iload_n 2, 1), (11, .iload 6, 2), (13, .invokevirtual 27, 3), (16, .istore 8, 2), (18, .aload_n 0, 1), (19, .iconst 0, 1), (20, .putfield 9, 3), (23, .iconst 0, 1), (24, .istore 9, 2), (26, .iload 9, 2), (28, .aload_n 1, 1), (29, .iload_n 2, 1), (30, .iload 6, 2), (32, .invokevirtual 30, 3), (35, .if_icmp .ge 74, 3), (38, .iconst 0, 1), (39, .istore 10, 2), (41, .iload 10, 2), (43, .iload 7, 2), (45, .if_icmp .ge 58, 3), (48, .iload 8, 2), (50, .iload 7, 2), (52, .iload 10, 2), (54, .iload 9, 2), (56, .invokestatic 33, 3), (59, .ifCond .eq 38, 3), (62, .aload_n 0, 1), (63, .aload_n 1, 1), (64, .iload_n 3, 1), (65, .iload 4, 2), (67, .i2l, 1), (68, .iload 10, 2), (70, .i2l, 1), (71, .ladd, 1), (72, .iload 5, 2), (74, .i2l, 1), (75, .iload 9, 2), (77, .i2l, 1), (78, .ladd, 1), (79, .invokevirtual 39, 3), (82, .ifCond .ne 5, 3), (85, .iconst 0, 1), (86, .ireturn, 1), (87, .aload_n 0, 1), (88, .dup, 1), (89, .getfield 9, 3), (92, .iconst 1, 1), (93, .iadd, 1), (94, .putfield 9, 3), (97, .iinc 10 1, 3), (100, .goto (-59), 3), (103, .iinc 9 1, 3), (106, .goto (-80), 3), (109, .iconst 1, 1), (110, .ireturn, 1)]
set_option maxRecDepth 100000 in
theorem T_X1_isFitting : ∀ q ∈ I_X1_isFitting, decode cX1_isFitting q.1 = .ok (q.2.1, q.2.2) := by decide +kernel
def f_X1_isFitting_j97 (t0 : Nat) (t1 : Nat) (x2 : Int32) (x3 : Int32) (x4 : Int32) (x5 : Int32) (x6 : Int32) (x7 : Int32) (x8 : Int32) (x9 : Int32) (x10 : Int32) (σ : St) : Option ((Int32 × St) ⊕ ((St) ⊕ (St))) :=
  some (.inl (x10 + 1, σ))
set_option maxHeartbeats 4000000 in
set_option maxRecDepth 100000 in
theorem w_X1_isFitting_j97 (X : Cx g RX1 cX1_isFitting 11 (some .boolean) p s m args meth c) (t0 : Nat) (t1 : Nat) (hk0 : kd t0 = 3) (hk1 : kd t1 = 9) (x2 : Int32) (x3 : Int32) (x4 : Int32) (x5 : Int32) (x6 : Int32) (x7 : Int32) (x8 : Int32) (x9 : Int32) (x10 : Int32) (σ : St) {w : (Int32 × St) ⊕ ((St) ⊕ (St))} (KB : ∀ (v0_ : Int32) (v1_ : St), w = .inl (v0_, v1_) → ∀ (H : Heap) (locs : List Loc) (ls : Array Slot), Wd g s v1_ H locs → lv_has ls 11 [(0, .ref (g.2.2 (t0))), (1, .ref (g.2.2 (t1))), (2, .int (x2)), (3, .int (x3)), (4, .int (x4)), (5, .int (x5)), (6, .int (x6)), (7, .int (x7)), (8, .int (x8)), (9, .int (x9)), (10, .int (v0_))] → W p l e (rmm 3 75) s m args below meth c H locs 0 0 Q (F0 m 41 ls [])) (KX0 : ∀ (v : St), w = .inr (.inl v) → ∀ (H : Heap) (locs : List Loc) (ls : Array Slot), Wd g s v H locs → lv_has ls 11 [(0, .ref (g.2.2 (t0))), (1, .ref (g.2.2 (t1))), (2, .int (x2)), (3, .int (x3)), (4, .int (x4)), (5, .int (x5)), (6, .int (x6)), (7, .int (x7)), (8, .int (x8)), (9, .int (x9))] → W p l e (rmm 3 75) s m args below meth c H locs 0 0 Q (F0 m 103 ls [])) (KX1 : ∀ (v : St), w = .inr (.inr v) → ∀ (H : Heap) (locs : List Loc) (ls : Array Slot), Wd g s v H locs → lv_has ls 11 [] → W p l e (rmm 3 75) s m args below meth c H locs 0 0 Q (F0 m 85 ls [])) {H : Heap} {locs : List Loc} {ls : Array Slot} (Y : Wd g s σ H locs) (hl : lv_has ls 11 [(0, .ref (g.2.2 (t0))), (1, .ref (g.2.2 (t1))), (2, .int (x2)), (3, .int (x3)), (4, .int (x4)), (5, .int (x5)), (6, .int (x6)), (7, .int (x7)), (8, .int (x8)), (9, .int (x9)), (10, .int (x10))]) (h : f_X1_isFitting_j97 t0 t1 x2 x3 x4 x5 x6 x7 x8 x9 x10 σ = some w) : W p l e (rmm 3 75) s m args below meth c H locs 0 0 Q (F0 m 97 ls []) := by
  unfold f_X1_isFitting_j97 at h
  refine lv_iinc (v := x10 + 1) (lv' := [(10, .int (x10 + 1)), (0, .ref (g.2.2 (t0))), (1, .ref (g.2.2 (t1))), (2, .int (x2)), (3, .int (x3)), (4, .int (x4)), (5, .int (x5)), (6, .int (x6)), (7, .int (x7)), (8, .int (x8)), (9, .int (x9))]) X.1 X.2.1 (dk T_X1_isFitting 55 rfl) hl (k := 10) rfl (icx ic_1) (Nat.le_of_ble_eq_true rfl) rfl (fun ls hl => ?_)
  refine lv_goto (tgt := 41) X.1 X.2.1 (dk T_X1_isFitting 56 rfl) rfl ?_
  exact KB (x10 + 1) σ (Option.some.inj h).symm _ _ _ Y (lv_sub hl [1, 2, 3, 4, 5, 6, 7, 8, 9, 10, 0] rfl)
def f_X1_isFitting_l41 (t0 : Nat) (t1 : Nat) (x2 : Int32) (x3 : Int32) (x4 : Int32) (x5 : Int32) (x6 : Int32) (x7 : Int32) (x8 : Int32) (x9 : Int32) (z : Int32 × St) : Option ((Int32 × St) ⊕ ((St) ⊕ (St))) :=
  if x7 ≤ z.1 then some (.inr (.inl z.2)) else (f_X3_covers x8 x7 z.1 x9).bind fun q6 => if q6 = 0 then f_X1_isFitting_j97 t0 t1 x2 x3 x4 x5 x6 x7 x8 x9 z.1 z.2 else (f_X1_isFree t0 t1 x3 (x4.toInt64 + z.1.toInt64) (x5.toInt64 + x9.toInt64) z.2).bind fun q8 => if q8.1 = 0 then some (.inr (.inr q8.2)) else f_X1_isFitting_j97 t0 t1 x2 x3 x4 x5 x6 x7 x8 x9 z.1 (up q8.2 t0 0 ((q8.2 t0 0) + 1))
set_option maxHeartbeats 4000000 in
set_option maxRecDepth 100000 in
theorem w_X1_isFitting_l41 (X : Cx g RX1 cX1_isFitting 11 (some .boolean) p s m args meth c) (t0 : Nat) (t1 : Nat) (hk0 : kd t0 = 3) (hk1 : kd t1 = 9) (x2 : Int32) (x3 : Int32) (x4 : Int32) (x5 : Int32) (x6 : Int32) (x7 : Int32) (x8 : Int32) (x9 : Int32) (σ : St) {r : (St) ⊕ (St)} (KX0 : ∀ (v : St), r = (.inl v) → ∀ (H : Heap) (locs : List Loc) (ls : Array Slot), Wd g s v H locs → lv_has ls 11 [(0, .ref (g.2.2 (t0))), (1, .ref (g.2.2 (t1))), (2, .int (x2)), (3, .int (x3)), (4, .int (x4)), (5, .int (x5)), (6, .int (x6)), (7, .int (x7)), (8, .int (x8)), (9, .int (x9))] → W p l e (rmm 3 75) s m args below meth c H locs 0 0 Q (F0 m 103 ls [])) (KX1 : ∀ (v : St), r = (.inr v) → ∀ (H : Heap) (locs : List Loc) (ls : Array Slot), Wd g s v H locs → lv_has ls 11 [] → W p l e (rmm 3 75) s m args below meth c H locs 0 0 Q (F0 m 85 ls [])) : ∀ (n : Nat) (z : Int32 × St) {H : Heap} {locs : List Loc} {ls : Array Slot}, Wd g s z.2 H locs → lv_has ls 11 [(0, .ref (g.2.2 (t0))), (1, .ref (g.2.2 (t1))), (2, .int (x2)), (3, .int (x3)), (4, .int (x4)), (5, .int (x5)), (6, .int (x6)), (7, .int (x7)), (8, .int (x8)), (9, .int (x9)), (10, .int (z.1))] → lp (f_X1_isFitting_l41 t0 t1 x2 x3 x4 x5 x6 x7 x8 x9) n z = some r → W p l e (rmm 3 75) s m args below meth c H locs 0 0 Q (F0 m 41 ls []) := by
  intro n
  induction n with
  | zero => intro z H locs ls Y hl h; cases h
  | succ n ih =>
    intro z H locs ls Y hl h
    obtain ⟨w, h, hw⟩ := lps h
    have KB : ∀ (v0_ : Int32) (v1_ : St), w = .inl (v0_, v1_) → ∀ (H : Heap) (locs : List Loc) (ls : Array Slot), Wd g s v1_ H locs → lv_has ls 11 [(0, .ref (g.2.2 (t0))), (1, .ref (g.2.2 (t1))), (2, .int (x2)), (3, .int (x3)), (4, .int (x4)), (5, .int (x5)), (6, .int (x6)), (7, .int (x7)), (8, .int (x8)), (9, .int (x9)), (10, .int (v0_))] → W p l e (rmm 3 75) s m args below meth c H locs 0 0 Q (F0 m 41 ls []) := fun v0_ v1_ e H locs ls Y hl => ih (v0_, v1_) Y hl (lpl hw e)
    have KX0 := fun (v : St) (e : w = .inr (.inl v)) => KX0 v (lpr hw e)
    have KX1 := fun (v : St) (e : w = .inr (.inr v)) => KX1 v (lpr hw e)
    unfold f_X1_isFitting_l41 at h
    refine lv_iload X.1 X.2.1 (dk T_X1_isFitting 23 rfl) (lv_at hl 10 rfl) ?_
    refine lv_iload X.1 X.2.1 (dk T_X1_isFitting 24 rfl) (lv_at hl 7 rfl) ?_
    refine lv_icmp_ge (tgt := 103) X.1 X.2.1 (dk T_X1_isFitting 25 rfl) rfl (fun c5 => ?_) (fun c5 => ?_)
    · replace h := ipos c5 h
      exact KX0 z.2 (Option.some.inj h).symm _ _ _ Y (lv_sub hl [0, 1, 2, 3, 4, 5, 6, 7, 8, 9] rfl)
    · replace h := ineg c5 h
      refine lv_iload X.1 X.2.1 (dk T_X1_isFitting 26 rfl) (lv_at hl 8 rfl) ?_
      refine lv_iload X.1 X.2.1 (dk T_X1_isFitting 27 rfl) (lv_at hl 7 rfl) ?_
      refine lv_iload X.1 X.2.1 (dk T_X1_isFitting 28 rfl) (lv_at hl 10 rfl) ?_
      refine lv_iload X.1 X.2.1 (dk T_X1_isFitting 29 rfl) (lv_at hl 9 rfl) ?_
      obtain ⟨q6, hq6, h⟩ := bs h
      refine gsI (rest := []) X Y (c_X3_covers x8 x7 z.1 x9 z.2 hq6) cb_X1_33 hl.1 rfl rfl (Nat.le_of_ble_eq_true rfl) ⟨Nat.le_of_ble_eq_true rfl, Nat.le_of_ble_eq_true rfl⟩ (dk T_X1_isFitting 30 rfl) (fun H locs Y => ?_)
      refine lv_if_eq (tgt := 97) X.1 X.2.1 (dk T_X1_isFitting 31 rfl) rfl (fun c7 => ?_) (fun c7 => ?_)
      · replace h := ipos c7 h
        exact w_X1_isFitting_j97 X t0 t1 hk0 hk1 x2 x3 x4 x5 x6 x7 x8 x9 z.1 z.2 KB KX0 KX1 Y (lv_sub hl [0, 1, 2, 3, 4, 5, 6, 7, 8, 9, 10] rfl) h
      · replace h := ineg c7 h
        refine lv_aload_n X.1 X.2.1 (dk T_X1_isFitting 32 rfl) rfl (lv_at hl 0 rfl) ?_
        refine lv_aload_n X.1 X.2.1 (dk T_X1_isFitting 33 rfl) rfl (lv_at hl 1 rfl) ?_
        refine lv_iload_n X.1 X.2.1 (dk T_X1_isFitting 34 rfl) rfl (lv_at hl 3 rfl) ?_
        refine lv_iload X.1 X.2.1 (dk T_X1_isFitting 35 rfl) (lv_at hl 4 rfl) ?_
        refine lv_i2l X.1 X.2.1 (dk T_X1_isFitting 36 rfl) rfl ?_
        refine lv_iload X.1 X.2.1 (dk T_X1_isFitting 37 rfl) (lv_at hl 10 rfl) ?_
        refine lv_i2l X.1 X.2.1 (dk T_X1_isFitting 38 rfl) rfl ?_
        refine lv_ladd X.1 X.2.1 (dk T_X1_isFitting 39 rfl) ?_
        refine lv_iload X.1 X.2.1 (dk T_X1_isFitting 40 rfl) (lv_at hl 5 rfl) ?_
        refine lv_i2l X.1 X.2.1 (dk T_X1_isFitting 41 rfl) rfl ?_
        refine lv_iload X.1 X.2.1 (dk T_X1_isFitting 42 rfl) (lv_at hl 9 rfl) ?_
        refine lv_i2l X.1 X.2.1 (dk T_X1_isFitting 43 rfl) rfl ?_
        refine lv_ladd X.1 X.2.1 (dk T_X1_isFitting 44 rfl) ?_
        obtain ⟨q8, hq8, h⟩ := bs h
        refine gvI (rest := []) X Y (c_X1_isFree t0 t1 hk0 hk1 x3 (x4.toInt64 + z.1.toInt64) (x5.toInt64 + x9.toInt64) z.2 hq8) cb_X1_39 hk0 hl.1 rfl rfl (Nat.le_of_ble_eq_true rfl) ⟨Nat.le_of_ble_eq_true rfl, Nat.le_of_ble_eq_true rfl⟩ (dk T_X1_isFitting 45 rfl) (fun H locs Y => ?_)
        refine lv_if_ne (tgt := 87) X.1 X.2.1 (dk T_X1_isFitting 46 rfl) rfl (fun c9 => ?_) (fun c9 => ?_)
        · replace h := ineg c9 h
          refine lv_aload_n X.1 X.2.1 (dk T_X1_isFitting 49 rfl) rfl (lv_at hl 0 rfl) ?_
          refine lv_dup X.1 X.2.1 (dk T_X1_isFitting 50 rfl) rfl ?_
          refine gg X Y fl_X1_9 hk0 rfl (dk T_X1_isFitting 51 rfl) ?_
          refine lv_iconst (v := 1) X.1 X.2.1 (dk T_X1_isFitting 52 rfl) ic_1 ?_
          refine lv_iadd X.1 X.2.1 (dk T_X1_isFitting 53 rfl) ?_
          refine gp X Y fp_X1_9 hk0 (nar_int _) (dk T_X1_isFitting 54 rfl) (fun H locs Y => ?_)
          exact w_X1_isFitting_j97 X t0 t1 hk0 hk1 x2 x3 x4 x5 x6 x7 x8 x9 z.1 (up q8.2 t0 0 ((q8.2 t0 0) + 1)) KB KX0 KX1 Y (lv_sub hl [0, 1, 2, 3, 4, 5, 6, 7, 8, 9, 10] rfl) h
        · replace h := ipos c9 h
          exact KX1 q8.2 (Option.some.inj h).symm _ _ _ Y (lv_sub hl [] rfl)
def f_X1_isFitting_l26 (t0 : Nat) (t1 : Nat) (x2 : Int32) (x3 : Int32) (x4 : Int32) (x5 : Int32) (x6 : Int32) (x7 : Int32) (x8 : Int32) (z : Int32 × St) : Option ((Int32 × St) ⊕ ((St) ⊕ (St))) :=
  (f_X8_rowsAfter t1 x2 x6 z.2).bind fun q3 => if q3 ≤ z.1 then some (.inr (.inl z.2)) else (lp (f_X1_isFitting_l41 t0 t1 x2 x3 x4 x5 x6 x7 x8 z.1) FU (0, z.2)).bind fun q10 => Sum.elim (fun v11 => some (.inl (z.1 + 1, v11))) (fun v12 => some (.inr (.inr v12))) q10
set_option maxHeartbeats 4000000 in
set_option maxRecDepth 100000 in
theorem w_X1_isFitting_l26 (X : Cx g RX1 cX1_isFitting 11 (some .boolean) p s m args meth c) (t0 : Nat) (t1 : Nat) (hk0 : kd t0 = 3) (hk1 : kd t1 = 9) (x2 : Int32) (x3 : Int32) (x4 : Int32) (x5 : Int32) (x6 : Int32) (x7 : Int32) (x8 : Int32) (σ : St) {r : (St) ⊕ (St)} (KX0 : ∀ (v : St), r = (.inl v) → ∀ (H : Heap) (locs : List Loc) (ls : Array Slot), Wd g s v H locs → lv_has ls 11 [] → W p l e (rmm 3 75) s m args below meth c H locs 0 0 Q (F0 m 109 ls [])) (KX1 : ∀ (v : St), r = (.inr v) → ∀ (H : Heap) (locs : List Loc) (ls : Array Slot), Wd g s v H locs → lv_has ls 11 [] → W p l e (rmm 3 75) s m args below meth c H locs 0 0 Q (F0 m 85 ls [])) : ∀ (n : Nat) (z : Int32 × St) {H : Heap} {locs : List Loc} {ls : Array Slot}, Wd g s z.2 H locs → lv_has ls 11 [(0, .ref (g.2.2 (t0))), (1, .ref (g.2.2 (t1))), (2, .int (x2)), (3, .int (x3)), (4, .int (x4)), (5, .int (x5)), (6, .int (x6)), (7, .int (x7)), (8, .int (x8)), (9, .int (z.1))] → lp (f_X1_isFitting_l26 t0 t1 x2 x3 x4 x5 x6 x7 x8) n z = some r → W p l e (rmm 3 75) s m args below meth c H locs 0 0 Q (F0 m 26 ls []) := by
  intro n
  induction n with
  | zero => intro z H locs ls Y hl h; cases h
  | succ n ih =>
    intro z H locs ls Y hl h
    obtain ⟨w, h, hw⟩ := lps h
    have KB : ∀ (v0_ : Int32) (v1_ : St), w = .inl (v0_, v1_) → ∀ (H : Heap) (locs : List Loc) (ls : Array Slot), Wd g s v1_ H locs → lv_has ls 11 [(0, .ref (g.2.2 (t0))), (1, .ref (g.2.2 (t1))), (2, .int (x2)), (3, .int (x3)), (4, .int (x4)), (5, .int (x5)), (6, .int (x6)), (7, .int (x7)), (8, .int (x8)), (9, .int (v0_))] → W p l e (rmm 3 75) s m args below meth c H locs 0 0 Q (F0 m 26 ls []) := fun v0_ v1_ e H locs ls Y hl => ih (v0_, v1_) Y hl (lpl hw e)
    have KX0 := fun (v : St) (e : w = .inr (.inl v)) => KX0 v (lpr hw e)
    have KX1 := fun (v : St) (e : w = .inr (.inr v)) => KX1 v (lpr hw e)
    unfold f_X1_isFitting_l26 at h
    refine lv_iload X.1 X.2.1 (dk T_X1_isFitting 15 rfl) (lv_at hl 9 rfl) ?_
    refine lv_aload_n X.1 X.2.1 (dk T_X1_isFitting 16 rfl) rfl (lv_at hl 1 rfl) ?_
    refine lv_iload_n X.1 X.2.1 (dk T_X1_isFitting 17 rfl) rfl (lv_at hl 2 rfl) ?_
    refine lv_iload X.1 X.2.1 (dk T_X1_isFitting 18 rfl) (lv_at hl 6 rfl) ?_
    obtain ⟨q3, hq3, h⟩ := bs h
    refine gvI (rest := [.int (z.1)]) X Y (c_X8_rowsAfter t1 hk1 x2 x6 z.2 hq3) cb_X1_30 hk1 hl.1 rfl rfl (Nat.le_of_ble_eq_true rfl) ⟨Nat.le_of_ble_eq_true rfl, Nat.le_of_ble_eq_true rfl⟩ (dk T_X1_isFitting 19 rfl) (fun H locs Y => ?_)
    refine lv_icmp_ge (tgt := 109) X.1 X.2.1 (dk T_X1_isFitting 20 rfl) rfl (fun c4 => ?_) (fun c4 => ?_)
    · replace h := ipos c4 h
      exact KX0 z.2 (Option.some.inj h).symm _ _ _ Y (lv_sub hl [] rfl)
    · replace h := ineg c4 h
      refine lv_iconst (v := 0) X.1 X.2.1 (dk T_X1_isFitting 21 rfl) ic_0 ?_
      refine lv_istore (lv' := [(10, .int (0)), (0, .ref (g.2.2 (t0))), (1, .ref (g.2.2 (t1))), (2, .int (x2)), (3, .int (x3)), (4, .int (x4)), (5, .int (x5)), (6, .int (x6)), (7, .int (x7)), (8, .int (x8)), (9, .int (z.1))]) X.1 X.2.1 (dk T_X1_isFitting 22 rfl) hl (Nat.le_of_ble_eq_true rfl) rfl (fun ls hl => ?_)
      obtain ⟨q10, hq10, h⟩ := bs h
      refine w_X1_isFitting_l41 X t0 t1 hk0 hk1 x2 x3 x4 x5 x6 x7 x8 z.1 σ (fun v e H locs ls Y hl => ?_) (fun v e H locs ls Y hl => ?_) FU (0, z.2) Y (lv_sub hl [1, 2, 3, 4, 5, 6, 7, 8, 9, 10, 0] rfl) hq10
      · obtain rfl := e
        replace h := sel h
        refine lv_iinc (v := z.1 + 1) (lv' := [(9, .int (z.1 + 1)), (0, .ref (g.2.2 (t0))), (1, .ref (g.2.2 (t1))), (2, .int (x2)), (3, .int (x3)), (4, .int (x4)), (5, .int (x5)), (6, .int (x6)), (7, .int (x7)), (8, .int (x8))]) X.1 X.2.1 (dk T_X1_isFitting 57 rfl) hl (k := 9) rfl (icx ic_1) (Nat.le_of_ble_eq_true rfl) rfl (fun ls hl => ?_)
        refine lv_goto (tgt := 26) X.1 X.2.1 (dk T_X1_isFitting 58 rfl) rfl ?_
        exact KB (z.1 + 1) v (Option.some.inj h).symm _ _ _ Y (lv_sub hl [1, 2, 3, 4, 5, 6, 7, 8, 9, 0] rfl)
      · obtain rfl := e
        replace h := ser h
        exact KX1 v (Option.some.inj h).symm _ _ _ Y (lv_sub hl [] rfl)
def f_X1_isFitting_0 (t0 : Nat) (t1 : Nat) (x2 : Int32) (x3 : Int32) (x4 : Int32) (x5 : Int32) (x6 : Int32) (σ : St) : Option (Int32 × St) :=
  (f_X8_columnsAfter t1 x2 x6 σ).bind fun q1 => (f_X8_coveredAfter t1 x2 x6 σ).bind fun q2 => (lp (f_X1_isFitting_l26 t0 t1 x2 x3 x4 x5 x6 q1 q2) FU (0, up σ t0 0 0)).bind fun q13 => Sum.elim (fun v14 => some (1, v14)) (fun v15 => some (0, v15)) q13
set_option maxHeartbeats 4000000 in
set_option maxRecDepth 100000 in
theorem w_X1_isFitting_0 (X : Cx g RX1 cX1_isFitting 11 (some .boolean) p s m args meth c) (t0 : Nat) (t1 : Nat) (hk0 : kd t0 = 3) (hk1 : kd t1 = 9) (x2 : Int32) (x3 : Int32) (x4 : Int32) (x5 : Int32) (x6 : Int32) (σ : St) {w : Int32 × St} (KR : ∀ (H : Heap) (locs : List Loc) (ls : Array Slot) (pc : Nat), Wd g s w.2 H locs → decode cX1_isFitting pc = .ok (.ireturn, 1) → W p l e (rmm 3 75) s m args below meth c H locs 0 0 Q (F0 m pc ls [.int (w.1)])) {H : Heap} {locs : List Loc} {ls : Array Slot} (Y : Wd g s σ H locs) (hl : lv_has ls 11 [(0, .ref (g.2.2 (t0))), (1, .ref (g.2.2 (t1))), (2, .int (x2)), (3, .int (x3)), (4, .int (x4)), (5, .int (x5)), (6, .int (x6))]) (h : f_X1_isFitting_0 t0 t1 x2 x3 x4 x5 x6 σ = some w) : W p l e (rmm 3 75) s m args below meth c H locs 0 0 Q (F0 m 0 ls []) := by
  unfold f_X1_isFitting_0 at h
  refine lv_aload_n X.1 X.2.1 (dk T_X1_isFitting 0 rfl) rfl (lv_at hl 1 rfl) ?_
  refine lv_iload_n X.1 X.2.1 (dk T_X1_isFitting 1 rfl) rfl (lv_at hl 2 rfl) ?_
  refine lv_iload X.1 X.2.1 (dk T_X1_isFitting 2 rfl) (lv_at hl 6 rfl) ?_
  obtain ⟨q1, hq1, h⟩ := bs h
  refine gvI (rest := []) X Y (c_X8_columnsAfter t1 hk1 x2 x6 σ hq1) cb_X1_21 hk1 hl.1 rfl rfl (Nat.le_of_ble_eq_true rfl) ⟨Nat.le_of_ble_eq_true rfl, Nat.le_of_ble_eq_true rfl⟩ (dk T_X1_isFitting 3 rfl) (fun H locs Y => ?_)
  refine lv_istore (lv' := [(7, .int (q1)), (0, .ref (g.2.2 (t0))), (1, .ref (g.2.2 (t1))), (2, .int (x2)), (3, .int (x3)), (4, .int (x4)), (5, .int (x5)), (6, .int (x6))]) X.1 X.2.1 (dk T_X1_isFitting 4 rfl) hl (Nat.le_of_ble_eq_true rfl) rfl (fun ls hl => ?_)
  refine lv_aload_n X.1 X.2.1 (dk T_X1_isFitting 5 rfl) rfl (lv_at hl 2 rfl) ?_
  refine lv_iload_n X.1 X.2.1 (dk T_X1_isFitting 6 rfl) rfl (lv_at hl 3 rfl) ?_
  refine lv_iload X.1 X.2.1 (dk T_X1_isFitting 7 rfl) (lv_at hl 7 rfl) ?_
  obtain ⟨q2, hq2, h⟩ := bs h
  refine gvI (rest := []) X Y (c_X8_coveredAfter t1 hk1 x2 x6 σ hq2) cb_X1_27 hk1 hl.1 rfl rfl (Nat.le_of_ble_eq_true rfl) ⟨Nat.le_of_ble_eq_true rfl, Nat.le_of_ble_eq_true rfl⟩ (dk T_X1_isFitting 8 rfl) (fun H locs Y => ?_)
  refine lv_istore (lv' := [(8, .int (q2)), (7, .int (q1)), (0, .ref (g.2.2 (t0))), (1, .ref (g.2.2 (t1))), (2, .int (x2)), (3, .int (x3)), (4, .int (x4)), (5, .int (x5)), (6, .int (x6))]) X.1 X.2.1 (dk T_X1_isFitting 9 rfl) hl (Nat.le_of_ble_eq_true rfl) rfl (fun ls hl => ?_)
  refine lv_aload_n X.1 X.2.1 (dk T_X1_isFitting 10 rfl) rfl (lv_at hl 2 rfl) ?_
  refine lv_iconst (v := 0) X.1 X.2.1 (dk T_X1_isFitting 11 rfl) ic_0 ?_
  refine gp X Y fp_X1_9 hk0 (nar_int _) (dk T_X1_isFitting 12 rfl) (fun H locs Y => ?_)
  refine lv_iconst (v := 0) X.1 X.2.1 (dk T_X1_isFitting 13 rfl) ic_0 ?_
  refine lv_istore (lv' := [(9, .int (0)), (8, .int (q2)), (7, .int (q1)), (0, .ref (g.2.2 (t0))), (1, .ref (g.2.2 (t1))), (2, .int (x2)), (3, .int (x3)), (4, .int (x4)), (5, .int (x5)), (6, .int (x6))]) X.1 X.2.1 (dk T_X1_isFitting 14 rfl) hl (Nat.le_of_ble_eq_true rfl) rfl (fun ls hl => ?_)
  obtain ⟨q13, hq13, h⟩ := bs h
  refine w_X1_isFitting_l26 X t0 t1 hk0 hk1 x2 x3 x4 x5 x6 q1 q2 σ (fun v e H locs ls Y hl => ?_) (fun v e H locs ls Y hl => ?_) FU (0, up σ t0 0 0) Y (lv_sub hl [3, 4, 5, 6, 7, 8, 9, 2, 1, 0] rfl) hq13
  · obtain rfl := e
    replace h := sel h
    refine lv_iconst (v := 1) X.1 X.2.1 (dk T_X1_isFitting 59 rfl) ic_1 ?_
    obtain rfl := Option.some.inj h
    exact KR _ _ _ _ Y (dk T_X1_isFitting 60 rfl)
  · obtain rfl := e
    replace h := ser h
    refine lv_iconst (v := 0) X.1 X.2.1 (dk T_X1_isFitting 47 rfl) ic_0 ?_
    obtain rfl := Option.some.inj h
    exact KR _ _ _ _ Y (dk T_X1_isFitting 48 rfl)
def f_X1_isFitting (t0 : Nat) (t1 : Nat) (x2 : Int32) (x3 : Int32) (x4 : Int32) (x5 : Int32) (x6 : Int32) (σ : St) : Option (Int32 × St) := bzW (f_X1_isFitting_0 t0 t1 x2 x3 x4 x5 x6 σ)
set_option maxHeartbeats 4000000 in
set_option maxRecDepth 100000 in
theorem c_X1_isFitting {l : Launch} {g : Geo} (t0 : Nat) (t1 : Nat) (hk0 : kd t0 = 3) (hk1 : kd t1 = 9) (x2 : Int32) (x3 : Int32) (x4 : Int32) (x5 : Int32) (x6 : Int32) (σ : St) {w : Int32 × St} (h : f_X1_isFitting t0 t1 x2 x3 x4 x5 x6 σ = some w) : CtI l yX1_isFitting cX1_isFitting 11 (some .boolean) (rmm 3 75) g [.ref (g.2.2 (t0)), .ref (g.2.2 (t1)), .int (x2), .int (x3), .int (x4), .int (x5), .int (x6)] σ w.1 w.2 := by
  obtain ⟨h, hz⟩ := bzW_s h
  exact enI .boolean (by decide) rfl (bz_n hz) (Nat.le_of_ble_eq_true rfl) (fun p e s m args below meth c Q X Y ls hl KR => w_X1_isFitting_0 X t0 t1 hk0 hk1 x2 x3 x4 x5 x6 σ KR Y hl h)
def I_X1_blockedNumber : List (Nat × Instr × Nat) := [(0, .aload_n 0, 1), (1, .getfield 9, 3), (4, .ireturn, 1)]
set_option maxRecDepth 100000 in
theorem T_X1_blockedNumber : ∀ q ∈ I_X1_blockedNumber, decode cX1_blockedNumber q.1 = .ok (q.2.1, q.2.2) := by decide +kernel
def f_X1_blockedNumber_0 (t0 : Nat) (σ : St) : Option (Int32) :=
  some (σ t0 0)
set_option maxHeartbeats 4000000 in
set_option maxRecDepth 100000 in
theorem w_X1_blockedNumber_0 (X : Cx g RX1 cX1_blockedNumber 1 (some .int) p s m args meth c) (t0 : Nat) (hk0 : kd t0 = 3) (σ : St) {w : Int32} (KR : ∀ (H : Heap) (locs : List Loc) (ls : Array Slot) (pc : Nat), Wd g s σ H locs → decode cX1_blockedNumber pc = .ok (.ireturn, 1) → W p l e (rmm 0 0) s m args below meth c H locs 0 0 Q (F0 m pc ls [.int (w)])) {H : Heap} {locs : List Loc} {ls : Array Slot} (Y : Wd g s σ H locs) (hl : lv_has ls 1 [(0, .ref (g.2.2 (t0)))]) (h : f_X1_blockedNumber_0 t0 σ = some w) : W p l e (rmm 0 0) s m args below meth c H locs 0 0 Q (F0 m 0 ls []) := by
  unfold f_X1_blockedNumber_0 at h
  refine lv_aload_n X.1 X.2.1 (dk T_X1_blockedNumber 0 rfl) rfl (lv_at hl 0 rfl) ?_
  refine gg X Y fl_X1_9 hk0 rfl (dk T_X1_blockedNumber 1 rfl) ?_
  obtain rfl := Option.some.inj h
  exact KR _ _ _ _ Y (dk T_X1_blockedNumber 2 rfl)
def f_X1_blockedNumber (t0 : Nat) (σ : St) : Option (Int32) := f_X1_blockedNumber_0 t0 σ
set_option maxHeartbeats 4000000 in
set_option maxRecDepth 100000 in
theorem c_X1_blockedNumber {l : Launch} {g : Geo} (t0 : Nat) (hk0 : kd t0 = 3) (σ : St) {w : Int32} (h : f_X1_blockedNumber t0 σ = some w) : CtI l yX1_blockedNumber cX1_blockedNumber 1 (some .int) (rmm 0 0) g [.ref (g.2.2 (t0))] σ w σ := enI .int (by decide) rfl rfl (Nat.le_of_ble_eq_true rfl) (fun p e s m args below meth c Q X Y ls hl KR => w_X1_blockedNumber_0 X t0 hk0 σ KR Y hl h)
def I_X1_blockKind : List (Nat × Instr × Nat) := [(0, .aload_n 0, 1), (1, .getfield 15, 3), (4, .ireturn, 1)]
set_option maxRecDepth 100000 in
theorem T_X1_blockKind : ∀ q ∈ I_X1_blockKind, decode cX1_blockKind q.1 = .ok (q.2.1, q.2.2) := by decide +kernel
def f_X1_blockKind_0 (t0 : Nat) (σ : St) : Option (Int32) :=
  some (σ t0 1)
set_option maxHeartbeats 4000000 in
set_option maxRecDepth 100000 in
theorem w_X1_blockKind_0 (X : Cx g RX1 cX1_blockKind 1 (some .int) p s m args meth c) (t0 : Nat) (hk0 : kd t0 = 3) (σ : St) {w : Int32} (KR : ∀ (H : Heap) (locs : List Loc) (ls : Array Slot) (pc : Nat), Wd g s σ H locs → decode cX1_blockKind pc = .ok (.ireturn, 1) → W p l e (rmm 0 0) s m args below meth c H locs 0 0 Q (F0 m pc ls [.int (w)])) {H : Heap} {locs : List Loc} {ls : Array Slot} (Y : Wd g s σ H locs) (hl : lv_has ls 1 [(0, .ref (g.2.2 (t0)))]) (h : f_X1_blockKind_0 t0 σ = some w) : W p l e (rmm 0 0) s m args below meth c H locs 0 0 Q (F0 m 0 ls []) := by
  unfold f_X1_blockKind_0 at h
  refine lv_aload_n X.1 X.2.1 (dk T_X1_blockKind 0 rfl) rfl (lv_at hl 0 rfl) ?_
  refine gg X Y fl_X1_15 hk0 rfl (dk T_X1_blockKind 1 rfl) ?_
  obtain rfl := Option.some.inj h
  exact KR _ _ _ _ Y (dk T_X1_blockKind 2 rfl)
def f_X1_blockKind (t0 : Nat) (σ : St) : Option (Int32) := f_X1_blockKind_0 t0 σ
set_option maxHeartbeats 4000000 in
set_option maxRecDepth 100000 in
theorem c_X1_blockKind {l : Launch} {g : Geo} (t0 : Nat) (hk0 : kd t0 = 3) (σ : St) {w : Int32} (h : f_X1_blockKind t0 σ = some w) : CtI l yX1_blockKind cX1_blockKind 1 (some .int) (rmm 0 0) g [.ref (g.2.2 (t0))] σ w σ := enI .int (by decide) rfl rfl (Nat.le_of_ble_eq_true rfl) (fun p e s m args below meth c Q X Y ls hl KR => w_X1_blockKind_0 X t0 hk0 σ KR Y hl h)
def I_X1_blockPlace : List (Nat × Instr × Nat) := [(0, .aload_n 0, 1), (1, .getfield 18, 3), (4, .ireturn, 1)]
set_option maxRecDepth 100000 in
theorem T_X1_blockPlace : ∀ q ∈ I_X1_blockPlace, decode cX1_blockPlace q.1 = .ok (q.2.1, q.2.2) := by decide +kernel
def f_X1_blockPlace_0 (t0 : Nat) (σ : St) : Option (Int32) :=
  some (σ t0 2)
set_option maxHeartbeats 4000000 in
set_option maxRecDepth 100000 in
theorem w_X1_blockPlace_0 (X : Cx g RX1 cX1_blockPlace 1 (some .int) p s m args meth c) (t0 : Nat) (hk0 : kd t0 = 3) (σ : St) {w : Int32} (KR : ∀ (H : Heap) (locs : List Loc) (ls : Array Slot) (pc : Nat), Wd g s σ H locs → decode cX1_blockPlace pc = .ok (.ireturn, 1) → W p l e (rmm 0 0) s m args below meth c H locs 0 0 Q (F0 m pc ls [.int (w)])) {H : Heap} {locs : List Loc} {ls : Array Slot} (Y : Wd g s σ H locs) (hl : lv_has ls 1 [(0, .ref (g.2.2 (t0)))]) (h : f_X1_blockPlace_0 t0 σ = some w) : W p l e (rmm 0 0) s m args below meth c H locs 0 0 Q (F0 m 0 ls []) := by
  unfold f_X1_blockPlace_0 at h
  refine lv_aload_n X.1 X.2.1 (dk T_X1_blockPlace 0 rfl) rfl (lv_at hl 0 rfl) ?_
  refine gg X Y fl_X1_18 hk0 rfl (dk T_X1_blockPlace 1 rfl) ?_
  obtain rfl := Option.some.inj h
  exact KR _ _ _ _ Y (dk T_X1_blockPlace 2 rfl)
def f_X1_blockPlace (t0 : Nat) (σ : St) : Option (Int32) := f_X1_blockPlace_0 t0 σ
set_option maxHeartbeats 4000000 in
set_option maxRecDepth 100000 in
theorem c_X1_blockPlace {l : Launch} {g : Geo} (t0 : Nat) (hk0 : kd t0 = 3) (σ : St) {w : Int32} (h : f_X1_blockPlace t0 σ = some w) : CtI l yX1_blockPlace cX1_blockPlace 1 (some .int) (rmm 0 0) g [.ref (g.2.2 (t0))] σ w σ := enI .int (by decide) rfl rfl (Nat.le_of_ble_eq_true rfl) (fun p e s m args below meth c Q X Y ls hl KR => w_X1_blockPlace_0 X t0 hk0 σ KR Y hl h)
def I_X7_newCommonCuts : List (Nat × Instr × Nat) := [(0, .aload_n 0, 1), (1, .iload_n 1, 1), (2, .iload 5, 2), (4, .invokevirtual 87, 3), (7, .istore 6, 2), (9, .aload_n 0, 1), (10, .iload_n 1, 1), (11, .iload 5, 2), (13, .invokevirtual 90, 3), (16, .istore 7, 2), (18, .iconst 0, 1), (19, .istore 8, 2), (21, .iconst 0, 1), (22, .istore 9, 2), (24, .iload 9, 2), (26, .aload_n 0, 1), (27, .iload_n 1, 1), (28, .iload 5, 2), (30, .invokevirtual 93, 3), (33, .if_icmp .ge 59, 3), (36, .iconst 0, 1), (37, .istore 10, 2), (39, .iload 10, 2), (41, .iload 6, 2), (43, .if_icmp .ge 43, 3), (46, .iload 7, 2), (48, .iload 6, 2), (50, .iload 10, 2), (52, .iload 9, 2), (54, .invokestatic 96, 3), (57, .ifCond .eq 23, 3), (60, .iload 8, 2), (62, .aload_n 0, 1), (63, .iload_n 2, 1), (64, .iload_n 3, 1), (65, .iload 10, 2), (67, .iadd, 1), (68, .iload 4, 2), (70, .iload 9, 2), (72, .iadd, 1), (73, .iconst (-1), 1), (74, .invokevirtual 102, 3), (77, .iadd, 1), (78, .istore 8, 2), (80, .iinc 10 1, 3), (83, .goto (-44), 3), (86, .iinc 9 1, 3), (89, .goto (-65), 3), (92, .iload 8, 2), (94, .ireturn, 1)]
set_option maxRecDepth 100000 in
theorem T_X7_newCommonCuts : ∀ q ∈ I_X7_newCommonCuts, decode cX7_newCommonCuts q.1 = .ok (q.2.1, q.2.2) := by decide +kernel
def f_X7_newCommonCuts_j80 (t0 : Nat) (x1 : Int32) (x2 : Int32) (x3 : Int32) (x4 : Int32) (x5 : Int32) (x6 : Int32) (x7 : Int32) (x8 : Int32) (x9 : Int32) (x10 : Int32) (σ : St) : Option ((Int32 × Int32) ⊕ (Int32)) :=
  some (.inl (x8, x10 + 1))
set_option maxHeartbeats 4000000 in
set_option maxRecDepth 100000 in
theorem w_X7_newCommonCuts_j80 (X : Cx g RX7 cX7_newCommonCuts 11 (some .int) p s m args meth c) (t0 : Nat) (hk0 : kd t0 = 9) (x1 : Int32) (x2 : Int32) (x3 : Int32) (x4 : Int32) (x5 : Int32) (x6 : Int32) (x7 : Int32) (x8 : Int32) (x9 : Int32) (x10 : Int32) (σ : St) {w : (Int32 × Int32) ⊕ (Int32)} (KB : ∀ (v0_ : Int32) (v1_ : Int32), w = .inl (v0_, v1_) → ∀ (H : Heap) (locs : List Loc) (ls : Array Slot), Wd g s σ H locs → lv_has ls 11 [(0, .ref (g.2.2 (t0))), (1, .int (x1)), (2, .int (x2)), (3, .int (x3)), (4, .int (x4)), (5, .int (x5)), (6, .int (x6)), (7, .int (x7)), (8, .int (v0_)), (9, .int (x9)), (10, .int (v1_))] → W p l e (rmm 3 72) s m args below meth c H locs 0 0 Q (F0 m 39 ls [])) (KX0 : ∀ (v : Int32), w = .inr v → ∀ (H : Heap) (locs : List Loc) (ls : Array Slot), Wd g s σ H locs → lv_has ls 11 [(0, .ref (g.2.2 (t0))), (1, .int (x1)), (2, .int (x2)), (3, .int (x3)), (4, .int (x4)), (5, .int (x5)), (6, .int (x6)), (7, .int (x7)), (8, .int (v)), (9, .int (x9))] → W p l e (rmm 3 72) s m args below meth c H locs 0 0 Q (F0 m 86 ls [])) {H : Heap} {locs : List Loc} {ls : Array Slot} (Y : Wd g s σ H locs) (hl : lv_has ls 11 [(0, .ref (g.2.2 (t0))), (1, .int (x1)), (2, .int (x2)), (3, .int (x3)), (4, .int (x4)), (5, .int (x5)), (6, .int (x6)), (7, .int (x7)), (8, .int (x8)), (9, .int (x9)), (10, .int (x10))]) (h : f_X7_newCommonCuts_j80 t0 x1 x2 x3 x4 x5 x6 x7 x8 x9 x10 σ = some w) : W p l e (rmm 3 72) s m args below meth c H locs 0 0 Q (F0 m 80 ls []) := by
  unfold f_X7_newCommonCuts_j80 at h
  refine lv_iinc (v := x10 + 1) (lv' := [(10, .int (x10 + 1)), (0, .ref (g.2.2 (t0))), (1, .int (x1)), (2, .int (x2)), (3, .int (x3)), (4, .int (x4)), (5, .int (x5)), (6, .int (x6)), (7, .int (x7)), (8, .int (x8)), (9, .int (x9))]) X.1 X.2.1 (dk T_X7_newCommonCuts 44 rfl) hl (k := 10) rfl (icx ic_1) (Nat.le_of_ble_eq_true rfl) rfl (fun ls hl => ?_)
  refine lv_goto (tgt := 39) X.1 X.2.1 (dk T_X7_newCommonCuts 45 rfl) rfl ?_
  exact KB x8 (x10 + 1) (Option.some.inj h).symm _ _ _ Y (lv_sub hl [1, 2, 3, 4, 5, 6, 7, 8, 9, 10, 0] rfl)
def f_X7_newCommonCuts_l39 (t0 : Nat) (x1 : Int32) (x2 : Int32) (x3 : Int32) (x4 : Int32) (x5 : Int32) (x6 : Int32) (x7 : Int32) (x9 : Int32) (σ : St) (z : Int32 × Int32) : Option ((Int32 × Int32) ⊕ (Int32)) :=
  if x6 ≤ z.2 then some (.inr z.1) else (f_X3_covers x7 x6 z.2 x9).bind fun q6 => if q6 = 0 then f_X7_newCommonCuts_j80 t0 x1 x2 x3 x4 x5 x6 x7 z.1 x9 z.2 σ else (f_X8_otherPartsBeside t0 x2 (x3 + z.2) (x4 + x9) (-1) σ).bind fun q8 => f_X7_newCommonCuts_j80 t0 x1 x2 x3 x4 x5 x6 x7 (z.1 + q8) x9 z.2 σ
set_option maxHeartbeats 4000000 in
set_option maxRecDepth 100000 in
theorem w_X7_newCommonCuts_l39 (X : Cx g RX7 cX7_newCommonCuts 11 (some .int) p s m args meth c) (t0 : Nat) (hk0 : kd t0 = 9) (x1 : Int32) (x2 : Int32) (x3 : Int32) (x4 : Int32) (x5 : Int32) (x6 : Int32) (x7 : Int32) (x9 : Int32) (σ : St) {r : Int32} (KX0 : ∀ (v : Int32), r = v → ∀ (H : Heap) (locs : List Loc) (ls : Array Slot), Wd g s σ H locs → lv_has ls 11 [(0, .ref (g.2.2 (t0))), (1, .int (x1)), (2, .int (x2)), (3, .int (x3)), (4, .int (x4)), (5, .int (x5)), (6, .int (x6)), (7, .int (x7)), (8, .int (v)), (9, .int (x9))] → W p l e (rmm 3 72) s m args below meth c H locs 0 0 Q (F0 m 86 ls [])) : ∀ (n : Nat) (z : Int32 × Int32) {H : Heap} {locs : List Loc} {ls : Array Slot}, Wd g s σ H locs → lv_has ls 11 [(0, .ref (g.2.2 (t0))), (1, .int (x1)), (2, .int (x2)), (3, .int (x3)), (4, .int (x4)), (5, .int (x5)), (6, .int (x6)), (7, .int (x7)), (8, .int (z.1)), (9, .int (x9)), (10, .int (z.2))] → lp (f_X7_newCommonCuts_l39 t0 x1 x2 x3 x4 x5 x6 x7 x9 σ) n z = some r → W p l e (rmm 3 72) s m args below meth c H locs 0 0 Q (F0 m 39 ls []) := by
  intro n
  induction n with
  | zero => intro z H locs ls Y hl h; cases h
  | succ n ih =>
    intro z H locs ls Y hl h
    obtain ⟨w, h, hw⟩ := lps h
    have KB : ∀ (v0_ : Int32) (v1_ : Int32), w = .inl (v0_, v1_) → ∀ (H : Heap) (locs : List Loc) (ls : Array Slot), Wd g s σ H locs → lv_has ls 11 [(0, .ref (g.2.2 (t0))), (1, .int (x1)), (2, .int (x2)), (3, .int (x3)), (4, .int (x4)), (5, .int (x5)), (6, .int (x6)), (7, .int (x7)), (8, .int (v0_)), (9, .int (x9)), (10, .int (v1_))] → W p l e (rmm 3 72) s m args below meth c H locs 0 0 Q (F0 m 39 ls []) := fun v0_ v1_ e H locs ls Y hl => ih (v0_, v1_) Y hl (lpl hw e)
    have KX0 := fun (v : Int32) (e : w = .inr v) => KX0 v (lpr hw e)
    unfold f_X7_newCommonCuts_l39 at h
    refine lv_iload X.1 X.2.1 (dk T_X7_newCommonCuts 22 rfl) (lv_at hl 10 rfl) ?_
    refine lv_iload X.1 X.2.1 (dk T_X7_newCommonCuts 23 rfl) (lv_at hl 6 rfl) ?_
    refine lv_icmp_ge (tgt := 86) X.1 X.2.1 (dk T_X7_newCommonCuts 24 rfl) rfl (fun c5 => ?_) (fun c5 => ?_)
    · replace h := ipos c5 h
      exact KX0 z.1 (Option.some.inj h).symm _ _ _ Y (lv_sub hl [0, 1, 2, 3, 4, 5, 6, 7, 8, 9] rfl)
    · replace h := ineg c5 h
      refine lv_iload X.1 X.2.1 (dk T_X7_newCommonCuts 25 rfl) (lv_at hl 7 rfl) ?_
      refine lv_iload X.1 X.2.1 (dk T_X7_newCommonCuts 26 rfl) (lv_at hl 6 rfl) ?_
      refine lv_iload X.1 X.2.1 (dk T_X7_newCommonCuts 27 rfl) (lv_at hl 10 rfl) ?_
      refine lv_iload X.1 X.2.1 (dk T_X7_newCommonCuts 28 rfl) (lv_at hl 9 rfl) ?_
      obtain ⟨q6, hq6, h⟩ := bs h
      refine gsI (rest := []) X Y (c_X3_covers x7 x6 z.2 x9 σ hq6) cb_X7_96 hl.1 rfl rfl (Nat.le_of_ble_eq_true rfl) ⟨Nat.le_of_ble_eq_true rfl, Nat.le_of_ble_eq_true rfl⟩ (dk T_X7_newCommonCuts 29 rfl) (fun H locs Y => ?_)
      refine lv_if_eq (tgt := 80) X.1 X.2.1 (dk T_X7_newCommonCuts 30 rfl) rfl (fun c7 => ?_) (fun c7 => ?_)
      · replace h := ipos c7 h
        exact w_X7_newCommonCuts_j80 X t0 hk0 x1 x2 x3 x4 x5 x6 x7 z.1 x9 z.2 σ KB KX0 Y (lv_sub hl [0, 1, 2, 3, 4, 5, 6, 7, 8, 9, 10] rfl) h
      · replace h := ineg c7 h
        refine lv_iload X.1 X.2.1 (dk T_X7_newCommonCuts 31 rfl) (lv_at hl 8 rfl) ?_
        refine lv_aload_n X.1 X.2.1 (dk T_X7_newCommonCuts 32 rfl) rfl (lv_at hl 0 rfl) ?_
        refine lv_iload_n X.1 X.2.1 (dk T_X7_newCommonCuts 33 rfl) rfl (lv_at hl 2 rfl) ?_
        refine lv_iload_n X.1 X.2.1 (dk T_X7_newCommonCuts 34 rfl) rfl (lv_at hl 3 rfl) ?_
        refine lv_iload X.1 X.2.1 (dk T_X7_newCommonCuts 35 rfl) (lv_at hl 10 rfl) ?_
        refine lv_iadd X.1 X.2.1 (dk T_X7_newCommonCuts 36 rfl) ?_
        refine lv_iload X.1 X.2.1 (dk T_X7_newCommonCuts 37 rfl) (lv_at hl 4 rfl) ?_
        refine lv_iload X.1 X.2.1 (dk T_X7_newCommonCuts 38 rfl) (lv_at hl 9 rfl) ?_
        refine lv_iadd X.1 X.2.1 (dk T_X7_newCommonCuts 39 rfl) ?_
        refine lv_iconst (v := (-1)) X.1 X.2.1 (dk T_X7_newCommonCuts 40 rfl) ic_m1 ?_
        obtain ⟨q8, hq8, h⟩ := bs h
        refine gvI (rest := [.int (z.1)]) X Y (c_X8_otherPartsBeside t0 hk0 x2 (x3 + z.2) (x4 + x9) (-1) σ hq8) cb_X7_102 hk0 hl.1 rfl rfl (Nat.le_of_ble_eq_true rfl) ⟨Nat.le_of_ble_eq_true rfl, Nat.le_of_ble_eq_true rfl⟩ (dk T_X7_newCommonCuts 41 rfl) (fun H locs Y => ?_)
        refine lv_iadd X.1 X.2.1 (dk T_X7_newCommonCuts 42 rfl) ?_
        refine lv_istore (lv' := [(8, .int (z.1 + q8)), (0, .ref (g.2.2 (t0))), (1, .int (x1)), (2, .int (x2)), (3, .int (x3)), (4, .int (x4)), (5, .int (x5)), (6, .int (x6)), (7, .int (x7)), (9, .int (x9)), (10, .int (z.2))]) X.1 X.2.1 (dk T_X7_newCommonCuts 43 rfl) hl (Nat.le_of_ble_eq_true rfl) rfl (fun ls hl => ?_)
        exact w_X7_newCommonCuts_j80 X t0 hk0 x1 x2 x3 x4 x5 x6 x7 (z.1 + q8) x9 z.2 σ KB KX0 Y (lv_sub hl [1, 2, 3, 4, 5, 6, 7, 8, 0, 9, 10] rfl) h
def f_X7_newCommonCuts_l24 (t0 : Nat) (x1 : Int32) (x2 : Int32) (x3 : Int32) (x4 : Int32) (x5 : Int32) (x6 : Int32) (x7 : Int32) (σ : St) (z : Int32 × Int32) : Option ((Int32 × Int32) ⊕ (Int32)) :=
  (f_X8_rowsAfter t0 x1 x5 σ).bind fun q3 => if q3 ≤ z.2 then some (.inr z.1) else (lp (f_X7_newCommonCuts_l39 t0 x1 x2 x3 x4 x5 x6 x7 z.2 σ) FU (z.1, 0)).bind fun q9 => some (.inl (q9, z.2 + 1))
set_option maxHeartbeats 4000000 in
set_option maxRecDepth 100000 in
theorem w_X7_newCommonCuts_l24 (X : Cx g RX7 cX7_newCommonCuts 11 (some .int) p s m args meth c) (t0 : Nat) (hk0 : kd t0 = 9) (x1 : Int32) (x2 : Int32) (x3 : Int32) (x4 : Int32) (x5 : Int32) (x6 : Int32) (x7 : Int32) (σ : St) {r : Int32} (KX0 : ∀ (v : Int32), r = v → ∀ (H : Heap) (locs : List Loc) (ls : Array Slot), Wd g s σ H locs → lv_has ls 11 [(8, .int (v))] → W p l e (rmm 3 72) s m args below meth c H locs 0 0 Q (F0 m 92 ls [])) : ∀ (n : Nat) (z : Int32 × Int32) {H : Heap} {locs : List Loc} {ls : Array Slot}, Wd g s σ H locs → lv_has ls 11 [(0, .ref (g.2.2 (t0))), (1, .int (x1)), (2, .int (x2)), (3, .int (x3)), (4, .int (x4)), (5, .int (x5)), (6, .int (x6)), (7, .int (x7)), (8, .int (z.1)), (9, .int (z.2))] → lp (f_X7_newCommonCuts_l24 t0 x1 x2 x3 x4 x5 x6 x7 σ) n z = some r → W p l e (rmm 3 72) s m args below meth c H locs 0 0 Q (F0 m 24 ls []) := by
  intro n
  induction n with
  | zero => intro z H locs ls Y hl h; cases h
  | succ n ih =>
    intro z H locs ls Y hl h
    obtain ⟨w, h, hw⟩ := lps h
    have KB : ∀ (v0_ : Int32) (v1_ : Int32), w = .inl (v0_, v1_) → ∀ (H : Heap) (locs : List Loc) (ls : Array Slot), Wd g s σ H locs → lv_has ls 11 [(0, .ref (g.2.2 (t0))), (1, .int (x1)), (2, .int (x2)), (3, .int (x3)), (4, .int (x4)), (5, .int (x5)), (6, .int (x6)), (7, .int (x7)), (8, .int (v0_)), (9, .int (v1_))] → W p l e (rmm 3 72) s m args below meth c H locs 0 0 Q (F0 m 24 ls []) := fun v0_ v1_ e H locs ls Y hl => ih (v0_, v1_) Y hl (lpl hw e)
    have KX0 := fun (v : Int32) (e : w = .inr v) => KX0 v (lpr hw e)
    unfold f_X7_newCommonCuts_l24 at h
    refine lv_iload X.1 X.2.1 (dk T_X7_newCommonCuts 14 rfl) (lv_at hl 9 rfl) ?_
    refine lv_aload_n X.1 X.2.1 (dk T_X7_newCommonCuts 15 rfl) rfl (lv_at hl 0 rfl) ?_
    refine lv_iload_n X.1 X.2.1 (dk T_X7_newCommonCuts 16 rfl) rfl (lv_at hl 1 rfl) ?_
    refine lv_iload X.1 X.2.1 (dk T_X7_newCommonCuts 17 rfl) (lv_at hl 5 rfl) ?_
    obtain ⟨q3, hq3, h⟩ := bs h
    refine gvI (rest := [.int (z.2)]) X Y (c_X8_rowsAfter t0 hk0 x1 x5 σ hq3) cb_X7_93 hk0 hl.1 rfl rfl (Nat.le_of_ble_eq_true rfl) ⟨Nat.le_of_ble_eq_true rfl, Nat.le_of_ble_eq_true rfl⟩ (dk T_X7_newCommonCuts 18 rfl) (fun H locs Y => ?_)
    refine lv_icmp_ge (tgt := 92) X.1 X.2.1 (dk T_X7_newCommonCuts 19 rfl) rfl (fun c4 => ?_) (fun c4 => ?_)
    · replace h := ipos c4 h
      exact KX0 z.1 (Option.some.inj h).symm _ _ _ Y (lv_sub hl [8] rfl)
    · replace h := ineg c4 h
      refine lv_iconst (v := 0) X.1 X.2.1 (dk T_X7_newCommonCuts 20 rfl) ic_0 ?_
      refine lv_istore (lv' := [(10, .int (0)), (0, .ref (g.2.2 (t0))), (1, .int (x1)), (2, .int (x2)), (3, .int (x3)), (4, .int (x4)), (5, .int (x5)), (6, .int (x6)), (7, .int (x7)), (8, .int (z.1)), (9, .int (z.2))]) X.1 X.2.1 (dk T_X7_newCommonCuts 21 rfl) hl (Nat.le_of_ble_eq_true rfl) rfl (fun ls hl => ?_)
      obtain ⟨q9, hq9, h⟩ := bs h
      refine w_X7_newCommonCuts_l39 X t0 hk0 x1 x2 x3 x4 x5 x6 x7 z.2 σ (fun v e H locs ls Y hl => ?_) FU (z.1, 0) Y (lv_sub hl [1, 2, 3, 4, 5, 6, 7, 8, 9, 10, 0] rfl) hq9
      · obtain rfl := e
        refine lv_iinc (v := z.2 + 1) (lv' := [(9, .int (z.2 + 1)), (0, .ref (g.2.2 (t0))), (1, .int (x1)), (2, .int (x2)), (3, .int (x3)), (4, .int (x4)), (5, .int (x5)), (6, .int (x6)), (7, .int (x7)), (8, .int (q9))]) X.1 X.2.1 (dk T_X7_newCommonCuts 46 rfl) hl (k := 9) rfl (icx ic_1) (Nat.le_of_ble_eq_true rfl) rfl (fun ls hl => ?_)
        refine lv_goto (tgt := 24) X.1 X.2.1 (dk T_X7_newCommonCuts 47 rfl) rfl ?_
        exact KB q9 (z.2 + 1) (Option.some.inj h).symm _ _ _ Y (lv_sub hl [1, 2, 3, 4, 5, 6, 7, 8, 9, 0] rfl)
def f_X7_newCommonCuts_0 (t0 : Nat) (x1 : Int32) (x2 : Int32) (x3 : Int32) (x4 : Int32) (x5 : Int32) (σ : St) : Option (Int32) :=
  (f_X8_columnsAfter t0 x1 x5 σ).bind fun q1 => (f_X8_coveredAfter t0 x1 x5 σ).bind fun q2 => (lp (f_X7_newCommonCuts_l24 t0 x1 x2 x3 x4 x5 q1 q2 σ) FU (0, 0)).bind fun q10 => some q10
set_option maxHeartbeats 4000000 in
set_option maxRecDepth 100000 in
theorem w_X7_newCommonCuts_0 (X : Cx g RX7 cX7_newCommonCuts 11 (some .int) p s m args meth c) (t0 : Nat) (hk0 : kd t0 = 9) (x1 : Int32) (x2 : Int32) (x3 : Int32) (x4 : Int32) (x5 : Int32) (σ : St) {w : Int32} (KR : ∀ (H : Heap) (locs : List Loc) (ls : Array Slot) (pc : Nat), Wd g s σ H locs → decode cX7_newCommonCuts pc = .ok (.ireturn, 1) → W p l e (rmm 3 72) s m args below meth c H locs 0 0 Q (F0 m pc ls [.int (w)])) {H : Heap} {locs : List Loc} {ls : Array Slot} (Y : Wd g s σ H locs) (hl : lv_has ls 11 [(0, .ref (g.2.2 (t0))), (1, .int (x1)), (2, .int (x2)), (3, .int (x3)), (4, .int (x4)), (5, .int (x5))]) (h : f_X7_newCommonCuts_0 t0 x1 x2 x3 x4 x5 σ = some w) : W p l e (rmm 3 72) s m args below meth c H locs 0 0 Q (F0 m 0 ls []) := by
  unfold f_X7_newCommonCuts_0 at h
  refine lv_aload_n X.1 X.2.1 (dk T_X7_newCommonCuts 0 rfl) rfl (lv_at hl 0 rfl) ?_
  refine lv_iload_n X.1 X.2.1 (dk T_X7_newCommonCuts 1 rfl) rfl (lv_at hl 1 rfl) ?_
  refine lv_iload X.1 X.2.1 (dk T_X7_newCommonCuts 2 rfl) (lv_at hl 5 rfl) ?_
  obtain ⟨q1, hq1, h⟩ := bs h
  refine gvI (rest := []) X Y (c_X8_columnsAfter t0 hk0 x1 x5 σ hq1) cb_X7_87 hk0 hl.1 rfl rfl (Nat.le_of_ble_eq_true rfl) ⟨Nat.le_of_ble_eq_true rfl, Nat.le_of_ble_eq_true rfl⟩ (dk T_X7_newCommonCuts 3 rfl) (fun H locs Y => ?_)
  refine lv_istore (lv' := [(6, .int (q1)), (0, .ref (g.2.2 (t0))), (1, .int (x1)), (2, .int (x2)), (3, .int (x3)), (4, .int (x4)), (5, .int (x5))]) X.1 X.2.1 (dk T_X7_newCommonCuts 4 rfl) hl (Nat.le_of_ble_eq_true rfl) rfl (fun ls hl => ?_)
  refine lv_aload_n X.1 X.2.1 (dk T_X7_newCommonCuts 5 rfl) rfl (lv_at hl 1 rfl) ?_
  refine lv_iload_n X.1 X.2.1 (dk T_X7_newCommonCuts 6 rfl) rfl (lv_at hl 2 rfl) ?_
  refine lv_iload X.1 X.2.1 (dk T_X7_newCommonCuts 7 rfl) (lv_at hl 6 rfl) ?_
  obtain ⟨q2, hq2, h⟩ := bs h
  refine gvI (rest := []) X Y (c_X8_coveredAfter t0 hk0 x1 x5 σ hq2) cb_X7_90 hk0 hl.1 rfl rfl (Nat.le_of_ble_eq_true rfl) ⟨Nat.le_of_ble_eq_true rfl, Nat.le_of_ble_eq_true rfl⟩ (dk T_X7_newCommonCuts 8 rfl) (fun H locs Y => ?_)
  refine lv_istore (lv' := [(7, .int (q2)), (6, .int (q1)), (0, .ref (g.2.2 (t0))), (1, .int (x1)), (2, .int (x2)), (3, .int (x3)), (4, .int (x4)), (5, .int (x5))]) X.1 X.2.1 (dk T_X7_newCommonCuts 9 rfl) hl (Nat.le_of_ble_eq_true rfl) rfl (fun ls hl => ?_)
  refine lv_iconst (v := 0) X.1 X.2.1 (dk T_X7_newCommonCuts 10 rfl) ic_0 ?_
  refine lv_istore (lv' := [(8, .int (0)), (7, .int (q2)), (6, .int (q1)), (0, .ref (g.2.2 (t0))), (1, .int (x1)), (2, .int (x2)), (3, .int (x3)), (4, .int (x4)), (5, .int (x5))]) X.1 X.2.1 (dk T_X7_newCommonCuts 11 rfl) hl (Nat.le_of_ble_eq_true rfl) rfl (fun ls hl => ?_)
  refine lv_iconst (v := 0) X.1 X.2.1 (dk T_X7_newCommonCuts 12 rfl) ic_0 ?_
  refine lv_istore (lv' := [(9, .int (0)), (8, .int (0)), (7, .int (q2)), (6, .int (q1)), (0, .ref (g.2.2 (t0))), (1, .int (x1)), (2, .int (x2)), (3, .int (x3)), (4, .int (x4)), (5, .int (x5))]) X.1 X.2.1 (dk T_X7_newCommonCuts 13 rfl) hl (Nat.le_of_ble_eq_true rfl) rfl (fun ls hl => ?_)
  obtain ⟨q10, hq10, h⟩ := bs h
  refine w_X7_newCommonCuts_l24 X t0 hk0 x1 x2 x3 x4 x5 q1 q2 σ (fun v e H locs ls Y hl => ?_) FU (0, 0) Y (lv_sub hl [4, 5, 6, 7, 8, 9, 3, 2, 1, 0] rfl) hq10
  · obtain rfl := e
    refine lv_iload X.1 X.2.1 (dk T_X7_newCommonCuts 48 rfl) (lv_at hl 0 rfl) ?_
    obtain rfl := Option.some.inj h
    exact KR _ _ _ _ Y (dk T_X7_newCommonCuts 49 rfl)
def f_X7_newCommonCuts (t0 : Nat) (x1 : Int32) (x2 : Int32) (x3 : Int32) (x4 : Int32) (x5 : Int32) (σ : St) : Option (Int32) := f_X7_newCommonCuts_0 t0 x1 x2 x3 x4 x5 σ
set_option maxHeartbeats 4000000 in
set_option maxRecDepth 100000 in
theorem c_X7_newCommonCuts {l : Launch} {g : Geo} (t0 : Nat) (hk0 : kd t0 = 9) (x1 : Int32) (x2 : Int32) (x3 : Int32) (x4 : Int32) (x5 : Int32) (σ : St) {w : Int32} (h : f_X7_newCommonCuts t0 x1 x2 x3 x4 x5 σ = some w) : CtI l yX7_newCommonCuts cX7_newCommonCuts 11 (some .int) (rmm 3 72) g [.ref (g.2.2 (t0)), .int (x1), .int (x2), .int (x3), .int (x4), .int (x5)] σ w σ := enI .int (by decide) rfl rfl (Nat.le_of_ble_eq_true rfl) (fun p e s m args below meth c Q X Y ls hl KR => w_X7_newCommonCuts_0 X t0 hk0 x1 x2 x3 x4 x5 σ KR Y hl h)
def I_X7_lookOn : List (Nat × Instr × Nat) := [(0, .iconst 0, 1), (1, .istore 4, 2), (3, .iload 4, 2), (5, .aload_n 1, 1), (6, .iload_n 3, 1), (7, .invokevirtual 68, 3), (10, .if_icmp .ge 125, 3), (13, .iconst 0, 1), (14, .istore 5, 2), (16, .iload 5, 2), (18, .aload_n 1, 1), (19, .iload_n 3, 1), (20, .invokevirtual 72, 3), (23, .if_icmp .ge 106, 3), (26, .iconst 0, 1), (27, .istore 6, 2), (29, .iload 6, 2), (31, .iconst 4, 1), (32, .if_icmp .ge 91, 3), (35, .aload_n 1, 1), (36, .iload_n 2, 1), (37, .iload_n 3, 1), (38, .iload 6, 2), (40, .invokevirtual 75, 3), (43, .ifCond .eq 74, 3), (46, .aload_n 0, 1), (47, .getfield 12, 3), (50, .aload_n 1, 1), (51, .iload_n 2, 1), (52, .iload_n 3, 1), (53, .iload 5, 2), (55, .iload 4, 2), (57, .iload 6, 2), (59, .invokevirtual 79, 3), (62, .ifCond .eq 55, 3), (65, .aload_n 1, 1), (66, .iload_n 2, 1), (67, .iload_n 3, 1), (68, .iload 5, 2), (70, .iload 4, 2), (72, .iload 6, 2), (74, .invokestatic 83, 3), (77, .istore 7, 2), (79, .iload 7, 2), (81, .aload_n 0, 1), (82, .getfield 31, 3), (85, .if_icmp .le 32, 3), (88, .aload_n 0, 1), (89, .iload 7, 2), (91, .putfield 31, 3), (94, .aload_n 0, 1), (95, .iload_n 3, 1), (96, .putfield 18, 3), (99, .aload_n 0, 1), (100, .iload 5, 2), (102, .putfield 22, 3), (105, .aload_n 0, 1), (106, .iload 4, 2), (108, .putfield 25, 3), (111, .aload_n 0, 1), (112, .iload 6, 2), (114, .putfield 28, 3), (117, .iinc 6 1, 3), (120, .goto (-91), 3), (123, .iinc 5 1, 3), (126, .goto (-110), 3), (129, .iinc 4 1, 3), (132, .goto (-129), 3), (135, .return_, 1)]
set_option maxRecDepth 100000 in
theorem T_X7_lookOn : ∀ q ∈ I_X7_lookOn, decode cX7_lookOn q.1 = .ok (q.2.1, q.2.2) := by decide +kernel
def f_X7_lookOn_j117 (t1 : Nat) (x2 : Int32) (x3 : Int32) (x4 : Int32) (x5 : Int32) (x6 : Int32) (σ : St) : Option ((Int32 × St) ⊕ (St)) :=
  some (.inl (x6 + 1, σ))
set_option maxHeartbeats 4000000 in
set_option maxRecDepth 100000 in
theorem w_X7_lookOn_j117 (X : Cx g RX7 cX7_lookOn 8 none p s m args meth c) (t1 : Nat) (hk1 : kd t1 = 9) (x2 : Int32) (x3 : Int32) (x4 : Int32) (x5 : Int32) (x6 : Int32) (σ : St) {w : (Int32 × St) ⊕ (St)} (KB : ∀ (v0_ : Int32) (v1_ : St), w = .inl (v0_, v1_) → ∀ (H : Heap) (locs : List Loc) (ls : Array Slot), Wd g s v1_ H locs → lv_has ls 8 [(0, .ref (g.2.2 (87))), (1, .ref (g.2.2 (t1))), (2, .int (x2)), (3, .int (x3)), (4, .int (x4)), (5, .int (x5)), (6, .int (v0_))] → W p l e (rmm 4 105) s m args below meth c H locs 0 0 Q (F0 m 29 ls [])) (KX0 : ∀ (v : St), w = .inr v → ∀ (H : Heap) (locs : List Loc) (ls : Array Slot), Wd g s v H locs → lv_has ls 8 [(0, .ref (g.2.2 (87))), (1, .ref (g.2.2 (t1))), (2, .int (x2)), (3, .int (x3)), (4, .int (x4)), (5, .int (x5))] → W p l e (rmm 4 105) s m args below meth c H locs 0 0 Q (F0 m 123 ls [])) {H : Heap} {locs : List Loc} {ls : Array Slot} (Y : Wd g s σ H locs) (hl : lv_has ls 8 [(0, .ref (g.2.2 (87))), (1, .ref (g.2.2 (t1))), (2, .int (x2)), (3, .int (x3)), (4, .int (x4)), (5, .int (x5)), (6, .int (x6))]) (h : f_X7_lookOn_j117 t1 x2 x3 x4 x5 x6 σ = some w) : W p l e (rmm 4 105) s m args below meth c H locs 0 0 Q (F0 m 117 ls []) := by
  unfold f_X7_lookOn_j117 at h
  refine lv_iinc (v := x6 + 1) (lv' := [(6, .int (x6 + 1)), (0, .ref (g.2.2 (87))), (1, .ref (g.2.2 (t1))), (2, .int (x2)), (3, .int (x3)), (4, .int (x4)), (5, .int (x5))]) X.1 X.2.1 (dk T_X7_lookOn 62 rfl) hl (k := 6) rfl (icx ic_1) (Nat.le_of_ble_eq_true rfl) rfl (fun ls hl => ?_)
  refine lv_goto (tgt := 29) X.1 X.2.1 (dk T_X7_lookOn 63 rfl) rfl ?_
  exact KB (x6 + 1) σ (Option.some.inj h).symm _ _ _ Y (lv_sub hl [1, 2, 3, 4, 5, 6, 0] rfl)
def f_X7_lookOn_l29 (t1 : Nat) (x2 : Int32) (x3 : Int32) (x4 : Int32) (x5 : Int32) (z : Int32 × St) : Option ((Int32 × St) ⊕ (St)) :=
  if 4 ≤ z.1 then some (.inr z.2) else (f_X8_grainAllows t1 x2 x3 z.1 z.2).bind fun q6 => if q6 = 0 then f_X7_lookOn_j117 t1 x2 x3 x4 x5 z.1 z.2 else (f_X1_isFitting 88 t1 x2 x3 x5 x4 z.1 z.2).bind fun q8 => if q8.1 = 0 then f_X7_lookOn_j117 t1 x2 x3 x4 x5 z.1 q8.2 else (f_X7_newCommonCuts t1 x2 x3 x5 x4 z.1 q8.2).bind fun q10 => if q10 ≤ (q8.2 87 5) then f_X7_lookOn_j117 t1 x2 x3 x4 x5 z.1 q8.2 else f_X7_lookOn_j117 t1 x2 x3 x4 x5 z.1 (up (up (up (up (up q8.2 87 5 q10) 87 1 x3) 87 2 x5) 87 3 x4) 87 4 z.1)
set_option maxHeartbeats 4000000 in
set_option maxRecDepth 100000 in
theorem w_X7_lookOn_l29 (X : Cx g RX7 cX7_lookOn 8 none p s m args meth c) (t1 : Nat) (hk1 : kd t1 = 9) (x2 : Int32) (x3 : Int32) (x4 : Int32) (x5 : Int32) (σ : St) {r : St} (KX0 : ∀ (v : St), r = v → ∀ (H : Heap) (locs : List Loc) (ls : Array Slot), Wd g s v H locs → lv_has ls 8 [(0, .ref (g.2.2 (87))), (1, .ref (g.2.2 (t1))), (2, .int (x2)), (3, .int (x3)), (4, .int (x4)), (5, .int (x5))] → W p l e (rmm 4 105) s m args below meth c H locs 0 0 Q (F0 m 123 ls [])) : ∀ (n : Nat) (z : Int32 × St) {H : Heap} {locs : List Loc} {ls : Array Slot}, Wd g s z.2 H locs → lv_has ls 8 [(0, .ref (g.2.2 (87))), (1, .ref (g.2.2 (t1))), (2, .int (x2)), (3, .int (x3)), (4, .int (x4)), (5, .int (x5)), (6, .int (z.1))] → lp (f_X7_lookOn_l29 t1 x2 x3 x4 x5) n z = some r → W p l e (rmm 4 105) s m args below meth c H locs 0 0 Q (F0 m 29 ls []) := by
  intro n
  induction n with
  | zero => intro z H locs ls Y hl h; cases h
  | succ n ih =>
    intro z H locs ls Y hl h
    obtain ⟨w, h, hw⟩ := lps h
    have KB : ∀ (v0_ : Int32) (v1_ : St), w = .inl (v0_, v1_) → ∀ (H : Heap) (locs : List Loc) (ls : Array Slot), Wd g s v1_ H locs → lv_has ls 8 [(0, .ref (g.2.2 (87))), (1, .ref (g.2.2 (t1))), (2, .int (x2)), (3, .int (x3)), (4, .int (x4)), (5, .int (x5)), (6, .int (v0_))] → W p l e (rmm 4 105) s m args below meth c H locs 0 0 Q (F0 m 29 ls []) := fun v0_ v1_ e H locs ls Y hl => ih (v0_, v1_) Y hl (lpl hw e)
    have KX0 := fun (v : St) (e : w = .inr v) => KX0 v (lpr hw e)
    unfold f_X7_lookOn_l29 at h
    refine lv_iload X.1 X.2.1 (dk T_X7_lookOn 16 rfl) (lv_at hl 6 rfl) ?_
    refine lv_iconst (v := 4) X.1 X.2.1 (dk T_X7_lookOn 17 rfl) ic_4 ?_
    refine lv_icmp_ge (tgt := 123) X.1 X.2.1 (dk T_X7_lookOn 18 rfl) rfl (fun c5 => ?_) (fun c5 => ?_)
    · replace h := ipos c5 h
      exact KX0 z.2 (Option.some.inj h).symm _ _ _ Y (lv_sub hl [0, 1, 2, 3, 4, 5] rfl)
    · replace h := ineg c5 h
      refine lv_aload_n X.1 X.2.1 (dk T_X7_lookOn 19 rfl) rfl (lv_at hl 1 rfl) ?_
      refine lv_iload_n X.1 X.2.1 (dk T_X7_lookOn 20 rfl) rfl (lv_at hl 2 rfl) ?_
      refine lv_iload_n X.1 X.2.1 (dk T_X7_lookOn 21 rfl) rfl (lv_at hl 3 rfl) ?_
      refine lv_iload X.1 X.2.1 (dk T_X7_lookOn 22 rfl) (lv_at hl 6 rfl) ?_
      obtain ⟨q6, hq6, h⟩ := bs h
      refine gvI (rest := []) X Y (c_X8_grainAllows t1 hk1 x2 x3 z.1 z.2 hq6) cb_X7_75 hk1 hl.1 rfl rfl (Nat.le_of_ble_eq_true rfl) ⟨Nat.le_of_ble_eq_true rfl, Nat.le_of_ble_eq_true rfl⟩ (dk T_X7_lookOn 23 rfl) (fun H locs Y => ?_)
      refine lv_if_eq (tgt := 117) X.1 X.2.1 (dk T_X7_lookOn 24 rfl) rfl (fun c7 => ?_) (fun c7 => ?_)
      · replace h := ipos c7 h
        exact w_X7_lookOn_j117 X t1 hk1 x2 x3 x4 x5 z.1 z.2 KB KX0 Y (lv_sub hl [0, 1, 2, 3, 4, 5, 6] rfl) h
      · replace h := ineg c7 h
        refine lv_aload_n X.1 X.2.1 (dk T_X7_lookOn 25 rfl) rfl (lv_at hl 0 rfl) ?_
        refine gg X Y fl_X7_12 rfl rfl (dk T_X7_lookOn 26 rfl) ?_
        refine lv_aload_n X.1 X.2.1 (dk T_X7_lookOn 27 rfl) rfl (lv_at hl 1 rfl) ?_
        refine lv_iload_n X.1 X.2.1 (dk T_X7_lookOn 28 rfl) rfl (lv_at hl 2 rfl) ?_
        refine lv_iload_n X.1 X.2.1 (dk T_X7_lookOn 29 rfl) rfl (lv_at hl 3 rfl) ?_
        refine lv_iload X.1 X.2.1 (dk T_X7_lookOn 30 rfl) (lv_at hl 5 rfl) ?_
        refine lv_iload X.1 X.2.1 (dk T_X7_lookOn 31 rfl) (lv_at hl 4 rfl) ?_
        refine lv_iload X.1 X.2.1 (dk T_X7_lookOn 32 rfl) (lv_at hl 6 rfl) ?_
        obtain ⟨q8, hq8, h⟩ := bs h
        refine gvI (rest := []) X Y (c_X1_isFitting 88 t1 rfl hk1 x2 x3 x5 x4 z.1 z.2 hq8) cb_X7_79 rfl hl.1 rfl rfl (Nat.le_of_ble_eq_true rfl) ⟨Nat.le_of_ble_eq_true rfl, Nat.le_of_ble_eq_true rfl⟩ (dk T_X7_lookOn 33 rfl) (fun H locs Y => ?_)
        refine lv_if_eq (tgt := 117) X.1 X.2.1 (dk T_X7_lookOn 34 rfl) rfl (fun c9 => ?_) (fun c9 => ?_)
        · replace h := ipos c9 h
          exact w_X7_lookOn_j117 X t1 hk1 x2 x3 x4 x5 z.1 q8.2 KB KX0 Y (lv_sub hl [0, 1, 2, 3, 4, 5, 6] rfl) h
        · replace h := ineg c9 h
          refine lv_aload_n X.1 X.2.1 (dk T_X7_lookOn 35 rfl) rfl (lv_at hl 1 rfl) ?_
          refine lv_iload_n X.1 X.2.1 (dk T_X7_lookOn 36 rfl) rfl (lv_at hl 2 rfl) ?_
          refine lv_iload_n X.1 X.2.1 (dk T_X7_lookOn 37 rfl) rfl (lv_at hl 3 rfl) ?_
          refine lv_iload X.1 X.2.1 (dk T_X7_lookOn 38 rfl) (lv_at hl 5 rfl) ?_
          refine lv_iload X.1 X.2.1 (dk T_X7_lookOn 39 rfl) (lv_at hl 4 rfl) ?_
          refine lv_iload X.1 X.2.1 (dk T_X7_lookOn 40 rfl) (lv_at hl 6 rfl) ?_
          obtain ⟨q10, hq10, h⟩ := bs h
          refine gsI (rest := []) X Y (c_X7_newCommonCuts t1 hk1 x2 x3 x5 x4 z.1 q8.2 hq10) cb_X7_83 hl.1 rfl rfl (Nat.le_of_ble_eq_true rfl) ⟨Nat.le_of_ble_eq_true rfl, Nat.le_of_ble_eq_true rfl⟩ (dk T_X7_lookOn 41 rfl) (fun H locs Y => ?_)
          refine lv_istore (lv' := [(7, .int (q10)), (0, .ref (g.2.2 (87))), (1, .ref (g.2.2 (t1))), (2, .int (x2)), (3, .int (x3)), (4, .int (x4)), (5, .int (x5)), (6, .int (z.1))]) X.1 X.2.1 (dk T_X7_lookOn 42 rfl) hl (Nat.le_of_ble_eq_true rfl) rfl (fun ls hl => ?_)
          refine lv_iload X.1 X.2.1 (dk T_X7_lookOn 43 rfl) (lv_at hl 0 rfl) ?_
          refine lv_aload_n X.1 X.2.1 (dk T_X7_lookOn 44 rfl) rfl (lv_at hl 1 rfl) ?_
          refine gg X Y fl_X7_31 rfl rfl (dk T_X7_lookOn 45 rfl) ?_
          refine lv_icmp_le (tgt := 117) X.1 X.2.1 (dk T_X7_lookOn 46 rfl) rfl (fun c11 => ?_) (fun c11 => ?_)
          · replace h := ipos c11 h
            exact w_X7_lookOn_j117 X t1 hk1 x2 x3 x4 x5 z.1 q8.2 KB KX0 Y (lv_sub hl [1, 2, 3, 4, 5, 6, 7] rfl) h
          · replace h := ineg c11 h
            refine lv_aload_n X.1 X.2.1 (dk T_X7_lookOn 47 rfl) rfl (lv_at hl 1 rfl) ?_
            refine lv_iload X.1 X.2.1 (dk T_X7_lookOn 48 rfl) (lv_at hl 0 rfl) ?_
            refine gp X Y fp_X7_31 rfl (nar_int _) (dk T_X7_lookOn 49 rfl) (fun H locs Y => ?_)
            refine lv_aload_n X.1 X.2.1 (dk T_X7_lookOn 50 rfl) rfl (lv_at hl 1 rfl) ?_
            refine lv_iload_n X.1 X.2.1 (dk T_X7_lookOn 51 rfl) rfl (lv_at hl 4 rfl) ?_
            refine gp X Y fp_X7_18 rfl (nar_int _) (dk T_X7_lookOn 52 rfl) (fun H locs Y => ?_)
            refine lv_aload_n X.1 X.2.1 (dk T_X7_lookOn 53 rfl) rfl (lv_at hl 1 rfl) ?_
            refine lv_iload X.1 X.2.1 (dk T_X7_lookOn 54 rfl) (lv_at hl 6 rfl) ?_
            refine gp X Y fp_X7_22 rfl (nar_int _) (dk T_X7_lookOn 55 rfl) (fun H locs Y => ?_)
            refine lv_aload_n X.1 X.2.1 (dk T_X7_lookOn 56 rfl) rfl (lv_at hl 1 rfl) ?_
            refine lv_iload X.1 X.2.1 (dk T_X7_lookOn 57 rfl) (lv_at hl 5 rfl) ?_
            refine gp X Y fp_X7_25 rfl (nar_int _) (dk T_X7_lookOn 58 rfl) (fun H locs Y => ?_)
            refine lv_aload_n X.1 X.2.1 (dk T_X7_lookOn 59 rfl) rfl (lv_at hl 1 rfl) ?_
            refine lv_iload X.1 X.2.1 (dk T_X7_lookOn 60 rfl) (lv_at hl 7 rfl) ?_
            refine gp X Y fp_X7_28 rfl (nar_int _) (dk T_X7_lookOn 61 rfl) (fun H locs Y => ?_)
            exact w_X7_lookOn_j117 X t1 hk1 x2 x3 x4 x5 z.1 (up (up (up (up (up q8.2 87 5 q10) 87 1 x3) 87 2 x5) 87 3 x4) 87 4 z.1) KB KX0 Y (lv_sub hl [1, 2, 3, 4, 5, 6, 7] rfl) h
def f_X7_lookOn_l16 (t1 : Nat) (x2 : Int32) (x3 : Int32) (x4 : Int32) (z : Int32 × St) : Option ((Int32 × St) ⊕ (St)) :=
  (f_X8_columnsOf t1 x3 z.2).bind fun q3 => if q3 ≤ z.1 then some (.inr z.2) else (lp (f_X7_lookOn_l29 t1 x2 x3 x4 z.1) FU (0, z.2)).bind fun q12 => some (.inl (z.1 + 1, q12))
set_option maxHeartbeats 4000000 in
set_option maxRecDepth 100000 in
theorem w_X7_lookOn_l16 (X : Cx g RX7 cX7_lookOn 8 none p s m args meth c) (t1 : Nat) (hk1 : kd t1 = 9) (x2 : Int32) (x3 : Int32) (x4 : Int32) (σ : St) {r : St} (KX0 : ∀ (v : St), r = v → ∀ (H : Heap) (locs : List Loc) (ls : Array Slot), Wd g s v H locs → lv_has ls 8 [(0, .ref (g.2.2 (87))), (1, .ref (g.2.2 (t1))), (2, .int (x2)), (3, .int (x3)), (4, .int (x4))] → W p l e (rmm 4 105) s m args below meth c H locs 0 0 Q (F0 m 129 ls [])) : ∀ (n : Nat) (z : Int32 × St) {H : Heap} {locs : List Loc} {ls : Array Slot}, Wd g s z.2 H locs → lv_has ls 8 [(0, .ref (g.2.2 (87))), (1, .ref (g.2.2 (t1))), (2, .int (x2)), (3, .int (x3)), (4, .int (x4)), (5, .int (z.1))] → lp (f_X7_lookOn_l16 t1 x2 x3 x4) n z = some r → W p l e (rmm 4 105) s m args below meth c H locs 0 0 Q (F0 m 16 ls []) := by
  intro n
  induction n with
  | zero => intro z H locs ls Y hl h; cases h
  | succ n ih =>
    intro z H locs ls Y hl h
    obtain ⟨w, h, hw⟩ := lps h
    have KB : ∀ (v0_ : Int32) (v1_ : St), w = .inl (v0_, v1_) → ∀ (H : Heap) (locs : List Loc) (ls : Array Slot), Wd g s v1_ H locs → lv_has ls 8 [(0, .ref (g.2.2 (87))), (1, .ref (g.2.2 (t1))), (2, .int (x2)), (3, .int (x3)), (4, .int (x4)), (5, .int (v0_))] → W p l e (rmm 4 105) s m args below meth c H locs 0 0 Q (F0 m 16 ls []) := fun v0_ v1_ e H locs ls Y hl => ih (v0_, v1_) Y hl (lpl hw e)
    have KX0 := fun (v : St) (e : w = .inr v) => KX0 v (lpr hw e)
    unfold f_X7_lookOn_l16 at h
    refine lv_iload X.1 X.2.1 (dk T_X7_lookOn 9 rfl) (lv_at hl 5 rfl) ?_
    refine lv_aload_n X.1 X.2.1 (dk T_X7_lookOn 10 rfl) rfl (lv_at hl 1 rfl) ?_
    refine lv_iload_n X.1 X.2.1 (dk T_X7_lookOn 11 rfl) rfl (lv_at hl 3 rfl) ?_
    obtain ⟨q3, hq3, h⟩ := bs h
    refine gvI (rest := [.int (z.1)]) X Y (c_X8_columnsOf t1 hk1 x3 z.2 hq3) cb_X7_72 hk1 hl.1 rfl rfl (Nat.le_of_ble_eq_true rfl) ⟨Nat.le_of_ble_eq_true rfl, Nat.le_of_ble_eq_true rfl⟩ (dk T_X7_lookOn 12 rfl) (fun H locs Y => ?_)
    refine lv_icmp_ge (tgt := 129) X.1 X.2.1 (dk T_X7_lookOn 13 rfl) rfl (fun c4 => ?_) (fun c4 => ?_)
    · replace h := ipos c4 h
      exact KX0 z.2 (Option.some.inj h).symm _ _ _ Y (lv_sub hl [0, 1, 2, 3, 4] rfl)
    · replace h := ineg c4 h
      refine lv_iconst (v := 0) X.1 X.2.1 (dk T_X7_lookOn 14 rfl) ic_0 ?_
      refine lv_istore (lv' := [(6, .int (0)), (0, .ref (g.2.2 (87))), (1, .ref (g.2.2 (t1))), (2, .int (x2)), (3, .int (x3)), (4, .int (x4)), (5, .int (z.1))]) X.1 X.2.1 (dk T_X7_lookOn 15 rfl) hl (Nat.le_of_ble_eq_true rfl) rfl (fun ls hl => ?_)
      obtain ⟨q12, hq12, h⟩ := bs h
      refine w_X7_lookOn_l29 X t1 hk1 x2 x3 x4 z.1 σ (fun v e H locs ls Y hl => ?_) FU (0, z.2) Y (lv_sub hl [1, 2, 3, 4, 5, 6, 0] rfl) hq12
      · obtain rfl := e
        refine lv_iinc (v := z.1 + 1) (lv' := [(5, .int (z.1 + 1)), (0, .ref (g.2.2 (87))), (1, .ref (g.2.2 (t1))), (2, .int (x2)), (3, .int (x3)), (4, .int (x4))]) X.1 X.2.1 (dk T_X7_lookOn 64 rfl) hl (k := 5) rfl (icx ic_1) (Nat.le_of_ble_eq_true rfl) rfl (fun ls hl => ?_)
        refine lv_goto (tgt := 16) X.1 X.2.1 (dk T_X7_lookOn 65 rfl) rfl ?_
        exact KB (z.1 + 1) q12 (Option.some.inj h).symm _ _ _ Y (lv_sub hl [1, 2, 3, 4, 5, 0] rfl)
def f_X7_lookOn_l3 (t1 : Nat) (x2 : Int32) (x3 : Int32) (z : Int32 × St) : Option ((Int32 × St) ⊕ (St)) :=
  (f_X8_rowsOf t1 x3 z.2).bind fun q1 => if q1 ≤ z.1 then some (.inr z.2) else (lp (f_X7_lookOn_l16 t1 x2 x3 z.1) FU (0, z.2)).bind fun q13 => some (.inl (z.1 + 1, q13))
set_option maxHeartbeats 4000000 in
set_option maxRecDepth 100000 in
theorem w_X7_lookOn_l3 (X : Cx g RX7 cX7_lookOn 8 none p s m args meth c) (t1 : Nat) (hk1 : kd t1 = 9) (x2 : Int32) (x3 : Int32) (σ : St) {r : St} (KX0 : ∀ (v : St), r = v → ∀ (H : Heap) (locs : List Loc) (ls : Array Slot), Wd g s v H locs → lv_has ls 8 [] → W p l e (rmm 4 105) s m args below meth c H locs 0 0 Q (F0 m 135 ls [])) : ∀ (n : Nat) (z : Int32 × St) {H : Heap} {locs : List Loc} {ls : Array Slot}, Wd g s z.2 H locs → lv_has ls 8 [(0, .ref (g.2.2 (87))), (1, .ref (g.2.2 (t1))), (2, .int (x2)), (3, .int (x3)), (4, .int (z.1))] → lp (f_X7_lookOn_l3 t1 x2 x3) n z = some r → W p l e (rmm 4 105) s m args below meth c H locs 0 0 Q (F0 m 3 ls []) := by
  intro n
  induction n with
  | zero => intro z H locs ls Y hl h; cases h
  | succ n ih =>
    intro z H locs ls Y hl h
    obtain ⟨w, h, hw⟩ := lps h
    have KB : ∀ (v0_ : Int32) (v1_ : St), w = .inl (v0_, v1_) → ∀ (H : Heap) (locs : List Loc) (ls : Array Slot), Wd g s v1_ H locs → lv_has ls 8 [(0, .ref (g.2.2 (87))), (1, .ref (g.2.2 (t1))), (2, .int (x2)), (3, .int (x3)), (4, .int (v0_))] → W p l e (rmm 4 105) s m args below meth c H locs 0 0 Q (F0 m 3 ls []) := fun v0_ v1_ e H locs ls Y hl => ih (v0_, v1_) Y hl (lpl hw e)
    have KX0 := fun (v : St) (e : w = .inr v) => KX0 v (lpr hw e)
    unfold f_X7_lookOn_l3 at h
    refine lv_iload X.1 X.2.1 (dk T_X7_lookOn 2 rfl) (lv_at hl 4 rfl) ?_
    refine lv_aload_n X.1 X.2.1 (dk T_X7_lookOn 3 rfl) rfl (lv_at hl 1 rfl) ?_
    refine lv_iload_n X.1 X.2.1 (dk T_X7_lookOn 4 rfl) rfl (lv_at hl 3 rfl) ?_
    obtain ⟨q1, hq1, h⟩ := bs h
    refine gvI (rest := [.int (z.1)]) X Y (c_X8_rowsOf t1 hk1 x3 z.2 hq1) cb_X7_68 hk1 hl.1 rfl rfl (Nat.le_of_ble_eq_true rfl) ⟨Nat.le_of_ble_eq_true rfl, Nat.le_of_ble_eq_true rfl⟩ (dk T_X7_lookOn 5 rfl) (fun H locs Y => ?_)
    refine lv_icmp_ge (tgt := 135) X.1 X.2.1 (dk T_X7_lookOn 6 rfl) rfl (fun c2 => ?_) (fun c2 => ?_)
    · replace h := ipos c2 h
      exact KX0 z.2 (Option.some.inj h).symm _ _ _ Y (lv_sub hl [] rfl)
    · replace h := ineg c2 h
      refine lv_iconst (v := 0) X.1 X.2.1 (dk T_X7_lookOn 7 rfl) ic_0 ?_
      refine lv_istore (lv' := [(5, .int (0)), (0, .ref (g.2.2 (87))), (1, .ref (g.2.2 (t1))), (2, .int (x2)), (3, .int (x3)), (4, .int (z.1))]) X.1 X.2.1 (dk T_X7_lookOn 8 rfl) hl (Nat.le_of_ble_eq_true rfl) rfl (fun ls hl => ?_)
      obtain ⟨q13, hq13, h⟩ := bs h
      refine w_X7_lookOn_l16 X t1 hk1 x2 x3 z.1 σ (fun v e H locs ls Y hl => ?_) FU (0, z.2) Y (lv_sub hl [1, 2, 3, 4, 5, 0] rfl) hq13
      · obtain rfl := e
        refine lv_iinc (v := z.1 + 1) (lv' := [(4, .int (z.1 + 1)), (0, .ref (g.2.2 (87))), (1, .ref (g.2.2 (t1))), (2, .int (x2)), (3, .int (x3))]) X.1 X.2.1 (dk T_X7_lookOn 66 rfl) hl (k := 4) rfl (icx ic_1) (Nat.le_of_ble_eq_true rfl) rfl (fun ls hl => ?_)
        refine lv_goto (tgt := 3) X.1 X.2.1 (dk T_X7_lookOn 67 rfl) rfl ?_
        exact KB (z.1 + 1) q13 (Option.some.inj h).symm _ _ _ Y (lv_sub hl [1, 2, 3, 4, 0] rfl)
def f_X7_lookOn_0 (t1 : Nat) (x2 : Int32) (x3 : Int32) (σ : St) : Option (St) :=
  (lp (f_X7_lookOn_l3 t1 x2 x3) FU (0, σ)).bind fun q14 => some q14
set_option maxHeartbeats 4000000 in
set_option maxRecDepth 100000 in
theorem w_X7_lookOn_0 (X : Cx g RX7 cX7_lookOn 8 none p s m args meth c) (t1 : Nat) (hk1 : kd t1 = 9) (x2 : Int32) (x3 : Int32) (σ : St) {w : St} (KR : ∀ (H : Heap) (locs : List Loc) (ls : Array Slot) (pc : Nat), Wd g s w H locs → decode cX7_lookOn pc = .ok (.return_, 1) → W p l e (rmm 4 105) s m args below meth c H locs 0 0 Q (F0 m pc ls [])) {H : Heap} {locs : List Loc} {ls : Array Slot} (Y : Wd g s σ H locs) (hl : lv_has ls 8 [(0, .ref (g.2.2 (87))), (1, .ref (g.2.2 (t1))), (2, .int (x2)), (3, .int (x3))]) (h : f_X7_lookOn_0 t1 x2 x3 σ = some w) : W p l e (rmm 4 105) s m args below meth c H locs 0 0 Q (F0 m 0 ls []) := by
  unfold f_X7_lookOn_0 at h
  refine lv_iconst (v := 0) X.1 X.2.1 (dk T_X7_lookOn 0 rfl) ic_0 ?_
  refine lv_istore (lv' := [(4, .int (0)), (0, .ref (g.2.2 (87))), (1, .ref (g.2.2 (t1))), (2, .int (x2)), (3, .int (x3))]) X.1 X.2.1 (dk T_X7_lookOn 1 rfl) hl (Nat.le_of_ble_eq_true rfl) rfl (fun ls hl => ?_)
  obtain ⟨q14, hq14, h⟩ := bs h
  refine w_X7_lookOn_l3 X t1 hk1 x2 x3 σ (fun v e H locs ls Y hl => ?_) FU (0, σ) Y (lv_sub hl [1, 2, 3, 4, 0] rfl) hq14
  · obtain rfl := e
    obtain rfl := Option.some.inj h
    exact KR _ _ _ _ Y (dk T_X7_lookOn 68 rfl)
def f_X7_lookOn (t1 : Nat) (x2 : Int32) (x3 : Int32) (σ : St) : Option (St) := f_X7_lookOn_0 t1 x2 x3 σ
set_option maxHeartbeats 4000000 in
set_option maxRecDepth 100000 in
theorem c_X7_lookOn {l : Launch} {g : Geo} (t1 : Nat) (hk1 : kd t1 = 9) (x2 : Int32) (x3 : Int32) (σ : St) {w : St} (h : f_X7_lookOn t1 x2 x3 σ = some w) : CtV l yX7_lookOn cX7_lookOn 8 none (rmm 4 105) g [.ref (g.2.2 (87)), .ref (g.2.2 (t1)), .int (x2), .int (x3)] σ w := enV (by decide) rfl (Nat.le_of_ble_eq_true rfl) (fun p e s m args below meth c Q X Y ls hl KR => w_X7_lookOn_0 X t1 hk1 x2 x3 σ KR Y hl h)
def I_X7_find : List (Nat × Instr × Nat) := [(0, .aload_n 0, 1), (1, .iconst (-1), 1), (2, .putfield 31, 3), (5, .aload_n 1, 1), (6, .getfield 34, 3), (9, .iload_n 2, 1), (10, .iconst 4, 1), (11, .invokevirtual 40, 3), (14, .iconst 1, 1), (15, .if_icmp .lt 13, 3), (18, .aload_n 1, 1), (19, .getfield 46, 3), (22, .invokevirtual 49, 3), (25, .ifCond .eq 5, 3), (28, .iconst 0, 1), (29, .ireturn, 1), (30, .iconst 0, 1), (31, .istore_n 3, 1), (32, .iload_n 3, 1), (33, .aload_n 1, 1), (34, .getfield 53, 3), (37, .invokevirtual 56, 3), (40, .if_icmp .ge 23, 3), (43, .aload_n 0, 1), (44, .getfield 31, 3), (47, .ifCond .ge 16, 3), (50, .aload_n 0, 1), (51, .aload_n 1, 1), (52, .iload_n 2, 1), (53, .iload_n 3, 1), (54, .invokevirtual 60, 3), (57, .iinc 3 1, 3), (60, .goto (-28), 3), (63, .aload_n 0, 1), (64, .getfield 31, 3), (67, .ifCond .lt 7, 3), (70, .iconst 1, 1), (71, .goto 4, 3), (74, .iconst 0, 1), (75, .ireturn, 1)]
set_option maxRecDepth 100000 in
theorem T_X7_find : ∀ q ∈ I_X7_find, decode cX7_find q.1 = .ok (q.2.1, q.2.2) := by decide +kernel
def f_X7_find_l32 (t1 : Nat) (x2 : Int32) (z : Int32 × St) : Option ((Int32 × St) ⊕ (St)) :=
  (f_X9_size (t1 + 1) z.2).bind fun q5 => if q5 ≤ z.1 then some (.inr z.2) else if 0 ≤ (z.2 87 5) then some (.inr z.2) else (f_X7_lookOn t1 x2 z.1 z.2).bind fun q8 => some (.inl (z.1 + 1, q8))
set_option maxHeartbeats 4000000 in
set_option maxRecDepth 100000 in
theorem w_X7_find_l32 (X : Cx g RX7 cX7_find 4 (some .boolean) p s m args meth c) (t1 : Nat) (hk1 : kd t1 = 9) (x2 : Int32) (σ : St) {r : St} (KX0 : ∀ (v : St), r = v → ∀ (H : Heap) (locs : List Loc) (ls : Array Slot), Wd g s v H locs → lv_has ls 4 [(0, .ref (g.2.2 (87)))] → W p l e (rmm 5 132) s m args below meth c H locs 0 0 Q (F0 m 63 ls [])) : ∀ (n : Nat) (z : Int32 × St) {H : Heap} {locs : List Loc} {ls : Array Slot}, Wd g s z.2 H locs → lv_has ls 4 [(0, .ref (g.2.2 (87))), (1, .ref (g.2.2 (t1))), (2, .int (x2)), (3, .int (z.1))] → lp (f_X7_find_l32 t1 x2) n z = some r → W p l e (rmm 5 132) s m args below meth c H locs 0 0 Q (F0 m 32 ls []) := by
  intro n
  induction n with
  | zero => intro z H locs ls Y hl h; cases h
  | succ n ih =>
    intro z H locs ls Y hl h
    obtain ⟨w, h, hw⟩ := lps h
    have KB : ∀ (v0_ : Int32) (v1_ : St), w = .inl (v0_, v1_) → ∀ (H : Heap) (locs : List Loc) (ls : Array Slot), Wd g s v1_ H locs → lv_has ls 4 [(0, .ref (g.2.2 (87))), (1, .ref (g.2.2 (t1))), (2, .int (x2)), (3, .int (v0_))] → W p l e (rmm 5 132) s m args below meth c H locs 0 0 Q (F0 m 32 ls []) := fun v0_ v1_ e H locs ls Y hl => ih (v0_, v1_) Y hl (lpl hw e)
    have KX0 := fun (v : St) (e : w = .inr v) => KX0 v (lpr hw e)
    unfold f_X7_find_l32 at h
    refine lv_iload_n X.1 X.2.1 (dk T_X7_find 18 rfl) rfl (lv_at hl 3 rfl) ?_
    refine lv_aload_n X.1 X.2.1 (dk T_X7_find 19 rfl) rfl (lv_at hl 1 rfl) ?_
    refine ggN X Y fl_X7_53 hk1 rfl (dk T_X7_find 20 rfl) ?_
    obtain ⟨q5, hq5, h⟩ := bs h
    refine gvI (rest := [.int (z.1)]) X Y (c_X9_size (t1 + 1) (ks1 hk1) z.2 hq5) cb_X7_56 (ks1 hk1) hl.1 rfl rfl (Nat.le_of_ble_eq_true rfl) ⟨Nat.le_of_ble_eq_true rfl, Nat.le_of_ble_eq_true rfl⟩ (dk T_X7_find 21 rfl) (fun H locs Y => ?_)
    refine lv_icmp_ge (tgt := 63) X.1 X.2.1 (dk T_X7_find 22 rfl) rfl (fun c6 => ?_) (fun c6 => ?_)
    · replace h := ipos c6 h
      exact KX0 z.2 (Option.some.inj h).symm _ _ _ Y (lv_sub hl [0] rfl)
    · replace h := ineg c6 h
      refine lv_aload_n X.1 X.2.1 (dk T_X7_find 23 rfl) rfl (lv_at hl 0 rfl) ?_
      refine gg X Y fl_X7_31 rfl rfl (dk T_X7_find 24 rfl) ?_
      refine lv_if_ge (tgt := 63) X.1 X.2.1 (dk T_X7_find 25 rfl) rfl (fun c7 => ?_) (fun c7 => ?_)
      · replace h := ipos c7 h
        exact KX0 z.2 (Option.some.inj h).symm _ _ _ Y (lv_sub hl [0] rfl)
      · replace h := ineg c7 h
        refine lv_aload_n X.1 X.2.1 (dk T_X7_find 26 rfl) rfl (lv_at hl 0 rfl) ?_
        refine lv_aload_n X.1 X.2.1 (dk T_X7_find 27 rfl) rfl (lv_at hl 1 rfl) ?_
        refine lv_iload_n X.1 X.2.1 (dk T_X7_find 28 rfl) rfl (lv_at hl 2 rfl) ?_
        refine lv_iload_n X.1 X.2.1 (dk T_X7_find 29 rfl) rfl (lv_at hl 3 rfl) ?_
        obtain ⟨q8, hq8, h⟩ := bs h
        refine gvV (rest := []) X Y (c_X7_lookOn t1 hk1 x2 z.1 z.2 hq8) cb_X7_60 rfl hl.1 rfl rfl (Nat.le_of_ble_eq_true rfl) ⟨Nat.le_of_ble_eq_true rfl, Nat.le_of_ble_eq_true rfl⟩ (dk T_X7_find 30 rfl) (fun H locs Y => ?_)
        refine lv_iinc (v := z.1 + 1) (lv' := [(3, .int (z.1 + 1)), (0, .ref (g.2.2 (87))), (1, .ref (g.2.2 (t1))), (2, .int (x2))]) X.1 X.2.1 (dk T_X7_find 31 rfl) hl (k := 3) rfl (icx ic_1) (Nat.le_of_ble_eq_true rfl) rfl (fun ls hl => ?_)
        refine lv_goto (tgt := 32) X.1 X.2.1 (dk T_X7_find 32 rfl) rfl ?_
        exact KB (z.1 + 1) q8 (Option.some.inj h).symm _ _ _ Y (lv_sub hl [1, 2, 3, 0] rfl)
def f_X7_find_j63 (t1 : Nat) (σ : St) : Option (Int32 × St) :=
  if (σ 87 5) < 0 then some (0, σ) else some (1, σ)
set_option maxHeartbeats 4000000 in
set_option maxRecDepth 100000 in
theorem w_X7_find_j63 (X : Cx g RX7 cX7_find 4 (some .boolean) p s m args meth c) (t1 : Nat) (hk1 : kd t1 = 9) (σ : St) {w : Int32 × St} (KR : ∀ (H : Heap) (locs : List Loc) (ls : Array Slot) (pc : Nat), Wd g s w.2 H locs → decode cX7_find pc = .ok (.ireturn, 1) → W p l e (rmm 5 132) s m args below meth c H locs 0 0 Q (F0 m pc ls [.int (w.1)])) {H : Heap} {locs : List Loc} {ls : Array Slot} (Y : Wd g s σ H locs) (hl : lv_has ls 4 [(0, .ref (g.2.2 (87)))]) (h : f_X7_find_j63 t1 σ = some w) : W p l e (rmm 5 132) s m args below meth c H locs 0 0 Q (F0 m 63 ls []) := by
  unfold f_X7_find_j63 at h
  refine lv_aload_n X.1 X.2.1 (dk T_X7_find 33 rfl) rfl (lv_at hl 0 rfl) ?_
  refine gg X Y fl_X7_31 rfl rfl (dk T_X7_find 34 rfl) ?_
  refine lv_if_lt (tgt := 74) X.1 X.2.1 (dk T_X7_find 35 rfl) rfl (fun c10 => ?_) (fun c10 => ?_)
  · replace h := ipos c10 h
    refine lv_iconst (v := 0) X.1 X.2.1 (dk T_X7_find 38 rfl) ic_0 ?_
    obtain rfl := Option.some.inj h
    exact KR _ _ _ _ Y (dk T_X7_find 39 rfl)
  · replace h := ineg c10 h
    refine lv_iconst (v := 1) X.1 X.2.1 (dk T_X7_find 36 rfl) ic_1 ?_
    refine lv_goto (tgt := 75) X.1 X.2.1 (dk T_X7_find 37 rfl) rfl ?_
    obtain rfl := Option.some.inj h
    exact KR _ _ _ _ Y (dk T_X7_find 39 rfl)
def f_X7_find_0 (t1 : Nat) (x2 : Int32) (σ : St) : Option (Int32 × St) :=
  (f_X9_get (t1 + 3) x2 4 (up σ 87 5 (-1))).bind fun q1 => if q1 < 1 then some (0, up σ 87 5 (-1)) else (f_X9_isFull (t1 + 5) (up σ 87 5 (-1))).bind fun q3 => if q3 = 0 then (lp (f_X7_find_l32 t1 x2) FU (0, up σ 87 5 (-1))).bind fun q9 => f_X7_find_j63 t1 q9 else some (0, up σ 87 5 (-1))
set_option maxHeartbeats 4000000 in
set_option maxRecDepth 100000 in
theorem w_X7_find_0 (X : Cx g RX7 cX7_find 4 (some .boolean) p s m args meth c) (t1 : Nat) (hk1 : kd t1 = 9) (x2 : Int32) (σ : St) {w : Int32 × St} (KR : ∀ (H : Heap) (locs : List Loc) (ls : Array Slot) (pc : Nat), Wd g s w.2 H locs → decode cX7_find pc = .ok (.ireturn, 1) → W p l e (rmm 5 132) s m args below meth c H locs 0 0 Q (F0 m pc ls [.int (w.1)])) {H : Heap} {locs : List Loc} {ls : Array Slot} (Y : Wd g s σ H locs) (hl : lv_has ls 4 [(0, .ref (g.2.2 (87))), (1, .ref (g.2.2 (t1))), (2, .int (x2))]) (h : f_X7_find_0 t1 x2 σ = some w) : W p l e (rmm 5 132) s m args below meth c H locs 0 0 Q (F0 m 0 ls []) := by
  unfold f_X7_find_0 at h
  refine lv_aload_n X.1 X.2.1 (dk T_X7_find 0 rfl) rfl (lv_at hl 0 rfl) ?_
  refine lv_iconst (v := (-1)) X.1 X.2.1 (dk T_X7_find 1 rfl) ic_m1 ?_
  refine gp X Y fp_X7_31 rfl (nar_int _) (dk T_X7_find 2 rfl) (fun H locs Y => ?_)
  refine lv_aload_n X.1 X.2.1 (dk T_X7_find 3 rfl) rfl (lv_at hl 1 rfl) ?_
  refine ggN X Y fl_X7_34 hk1 rfl (dk T_X7_find 4 rfl) ?_
  refine lv_iload_n X.1 X.2.1 (dk T_X7_find 5 rfl) rfl (lv_at hl 2 rfl) ?_
  refine lv_iconst (v := 4) X.1 X.2.1 (dk T_X7_find 6 rfl) ic_4 ?_
  obtain ⟨q1, hq1, h⟩ := bs h
  refine gvI (rest := []) X Y (c_X9_get (t1 + 3) (ks3 hk1) x2 4 (up σ 87 5 (-1)) hq1) cb_X7_40 (ks3 hk1) hl.1 rfl rfl (Nat.le_of_ble_eq_true rfl) ⟨Nat.le_of_ble_eq_true rfl, Nat.le_of_ble_eq_true rfl⟩ (dk T_X7_find 7 rfl) (fun H locs Y => ?_)
  refine lv_iconst (v := 1) X.1 X.2.1 (dk T_X7_find 8 rfl) ic_1 ?_
  refine lv_icmp_lt (tgt := 28) X.1 X.2.1 (dk T_X7_find 9 rfl) rfl (fun c2 => ?_) (fun c2 => ?_)
  · replace h := ipos c2 h
    refine lv_iconst (v := 0) X.1 X.2.1 (dk T_X7_find 14 rfl) ic_0 ?_
    obtain rfl := Option.some.inj h
    exact KR _ _ _ _ Y (dk T_X7_find 15 rfl)
  · replace h := ineg c2 h
    refine lv_aload_n X.1 X.2.1 (dk T_X7_find 10 rfl) rfl (lv_at hl 1 rfl) ?_
    refine ggN X Y fl_X7_46 hk1 rfl (dk T_X7_find 11 rfl) ?_
    obtain ⟨q3, hq3, h⟩ := bs h
    refine gvI (rest := []) X Y (c_X9_isFull (t1 + 5) (ks5 hk1) (up σ 87 5 (-1)) hq3) cb_X7_49 (ks5 hk1) hl.1 rfl rfl (Nat.le_of_ble_eq_true rfl) ⟨Nat.le_of_ble_eq_true rfl, Nat.le_of_ble_eq_true rfl⟩ (dk T_X7_find 12 rfl) (fun H locs Y => ?_)
    refine lv_if_eq (tgt := 30) X.1 X.2.1 (dk T_X7_find 13 rfl) rfl (fun c4 => ?_) (fun c4 => ?_)
    · replace h := ipos c4 h
      refine lv_iconst (v := 0) X.1 X.2.1 (dk T_X7_find 16 rfl) ic_0 ?_
      refine lv_istore_n (lv' := [(3, .int (0)), (0, .ref (g.2.2 (87))), (1, .ref (g.2.2 (t1))), (2, .int (x2))]) X.1 X.2.1 (dk T_X7_find 17 rfl) rfl hl (Nat.le_of_ble_eq_true rfl) rfl (fun ls hl => ?_)
      obtain ⟨q9, hq9, h⟩ := bs h
      refine w_X7_find_l32 X t1 hk1 x2 σ (fun v e H locs ls Y hl => ?_) FU (0, up σ 87 5 (-1)) Y (lv_sub hl [1, 2, 3, 0] rfl) hq9
      · obtain rfl := e
        exact w_X7_find_j63 X t1 hk1 q9 KR Y (lv_sub hl [0] rfl) h
    · replace h := ineg c4 h
      refine lv_iconst (v := 0) X.1 X.2.1 (dk T_X7_find 14 rfl) ic_0 ?_
      obtain rfl := Option.some.inj h
      exact KR _ _ _ _ Y (dk T_X7_find 15 rfl)
def f_X7_find (t1 : Nat) (x2 : Int32) (σ : St) : Option (Int32 × St) := bzW (f_X7_find_0 t1 x2 σ)
set_option maxHeartbeats 4000000 in
set_option maxRecDepth 100000 in
theorem c_X7_find {l : Launch} {g : Geo} (t1 : Nat) (hk1 : kd t1 = 9) (x2 : Int32) (σ : St) {w : Int32 × St} (h : f_X7_find t1 x2 σ = some w) : CtI l yX7_find cX7_find 4 (some .boolean) (rmm 5 132) g [.ref (g.2.2 (87)), .ref (g.2.2 (t1)), .int (x2)] σ w.1 w.2 := by
  obtain ⟨h, hz⟩ := bzW_s h
  exact enI .boolean (by decide) rfl (bz_n hz) (Nat.le_of_ble_eq_true rfl) (fun p e s m args below meth c Q X Y ls hl KR => w_X7_find_0 X t1 hk1 x2 σ KR Y hl h)
def I_X7_carryOut : List (Nat × Instr × Nat) := [(0, .aload_n 1, 1), (1, .iload_n 2, 1), (2, .aload_n 0, 1), (3, .getfield 18, 3), (6, .aload_n 0, 1), (7, .getfield 22, 3), (10, .aload_n 0, 1), (11, .getfield 25, 3), (14, .aload_n 0, 1), (15, .getfield 28, 3), (18, .invokevirtual 64, 3), (21, .ireturn, 1)]
set_option maxRecDepth 100000 in
theorem T_X7_carryOut : ∀ q ∈ I_X7_carryOut, decode cX7_carryOut q.1 = .ok (q.2.1, q.2.2) := by decide +kernel
def f_X7_carryOut_0 (t1 : Nat) (x2 : Int32) (σ : St) : Option (Int32 × St) :=
  (f_X8_createPart t1 x2 (σ 87 1) (σ 87 2) (σ 87 3) (σ 87 4) σ).bind fun q1 => some (q1.1, q1.2)
set_option maxHeartbeats 4000000 in
set_option maxRecDepth 100000 in
theorem w_X7_carryOut_0 (X : Cx g RX7 cX7_carryOut 3 (some .int) p s m args meth c) (t1 : Nat) (hk1 : kd t1 = 9) (x2 : Int32) (σ : St) {w : Int32 × St} (KR : ∀ (H : Heap) (locs : List Loc) (ls : Array Slot) (pc : Nat), Wd g s w.2 H locs → decode cX7_carryOut pc = .ok (.ireturn, 1) → W p l e (rmm 3 77) s m args below meth c H locs 0 0 Q (F0 m pc ls [.int (w.1)])) {H : Heap} {locs : List Loc} {ls : Array Slot} (Y : Wd g s σ H locs) (hl : lv_has ls 3 [(0, .ref (g.2.2 (87))), (1, .ref (g.2.2 (t1))), (2, .int (x2))]) (h : f_X7_carryOut_0 t1 x2 σ = some w) : W p l e (rmm 3 77) s m args below meth c H locs 0 0 Q (F0 m 0 ls []) := by
  unfold f_X7_carryOut_0 at h
  refine lv_aload_n X.1 X.2.1 (dk T_X7_carryOut 0 rfl) rfl (lv_at hl 1 rfl) ?_
  refine lv_iload_n X.1 X.2.1 (dk T_X7_carryOut 1 rfl) rfl (lv_at hl 2 rfl) ?_
  refine lv_aload_n X.1 X.2.1 (dk T_X7_carryOut 2 rfl) rfl (lv_at hl 0 rfl) ?_
  refine gg X Y fl_X7_18 rfl rfl (dk T_X7_carryOut 3 rfl) ?_
  refine lv_aload_n X.1 X.2.1 (dk T_X7_carryOut 4 rfl) rfl (lv_at hl 0 rfl) ?_
  refine gg X Y fl_X7_22 rfl rfl (dk T_X7_carryOut 5 rfl) ?_
  refine lv_aload_n X.1 X.2.1 (dk T_X7_carryOut 6 rfl) rfl (lv_at hl 0 rfl) ?_
  refine gg X Y fl_X7_25 rfl rfl (dk T_X7_carryOut 7 rfl) ?_
  refine lv_aload_n X.1 X.2.1 (dk T_X7_carryOut 8 rfl) rfl (lv_at hl 0 rfl) ?_
  refine gg X Y fl_X7_28 rfl rfl (dk T_X7_carryOut 9 rfl) ?_
  obtain ⟨q1, hq1, h⟩ := bs h
  refine gvI (rest := []) X Y (c_X8_createPart t1 hk1 x2 (σ 87 1) (σ 87 2) (σ 87 3) (σ 87 4) σ hq1) cb_X7_64 hk1 hl.1 rfl rfl (Nat.le_of_ble_eq_true rfl) ⟨Nat.le_of_ble_eq_true rfl, Nat.le_of_ble_eq_true rfl⟩ (dk T_X7_carryOut 10 rfl) (fun H locs Y => ?_)
  obtain rfl := Option.some.inj h
  exact KR _ _ _ _ Y (dk T_X7_carryOut 11 rfl)
def f_X7_carryOut (t1 : Nat) (x2 : Int32) (σ : St) : Option (Int32 × St) := f_X7_carryOut_0 t1 x2 σ
set_option maxHeartbeats 4000000 in
set_option maxRecDepth 100000 in
theorem c_X7_carryOut {l : Launch} {g : Geo} (t1 : Nat) (hk1 : kd t1 = 9) (x2 : Int32) (σ : St) {w : Int32 × St} (h : f_X7_carryOut t1 x2 σ = some w) : CtI l yX7_carryOut cX7_carryOut 3 (some .int) (rmm 3 77) g [.ref (g.2.2 (87)), .ref (g.2.2 (t1)), .int (x2)] σ w.1 w.2 := enI .int (by decide) rfl rfl (Nat.le_of_ble_eq_true rfl) (fun p e s m args below meth c Q X Y ls hl KR => w_X7_carryOut_0 X t1 hk1 x2 σ KR Y hl h)
end
