theorem bp_35 : (Int8.ofInt 35).toInt32 = 35 := by decide
theorem bp_42 : (Int8.ofInt 42).toInt32 = 42 := by decide
theorem bp_45 : (Int8.ofInt 45).toInt32 = 45 := by decide
theorem bp_46 : (Int8.ofInt 46).toInt32 = 46 := by decide
theorem bp_47 : (Int8.ofInt 47).toInt32 = 47 := by decide
theorem bp_48 : (Int8.ofInt 48).toInt32 = 48 := by decide
theorem bp_57 : (Int8.ofInt 57).toInt32 = 57 := by decide
theorem bp_58 : (Int8.ofInt 58).toInt32 = 58 := by decide
theorem bp_59 : (Int8.ofInt 59).toInt32 = 59 := by decide
theorem bp_112 : (Int8.ofInt 112).toInt32 = 112 := by decide
theorem bp_115 : (Int8.ofInt 115).toInt32 = 115 := by decide
theorem bp_120 : (Int8.ofInt 120).toInt32 = 120 := by decide
theorem bp_124 : (Int8.ofInt 124).toInt32 = 124 := by decide
theorem cb_X6_31 : CBV RX6 31 yX6_rewind cX6_rewind 1 none 0 7 := ⟨⟨mw 35 9 rfl rfl, mw 1 15 rfl rfl, mw 35 12 rfl rfl, by decide, by decide, by decide +kernel⟩, mw 35 10 rfl rfl, mw 35 11 rfl rfl, TX6, 15, tyX6, cl_X6⟩
theorem cb_X6_34 : CBV RX6 34 yX6_isItem cX6_isItem 1 (some .boolean) 0 7 := ⟨⟨mw 35 13 rfl rfl, mw 1 15 rfl rfl, mw 35 16 rfl rfl, by decide, by decide, by decide +kernel⟩, mw 35 14 rfl rfl, mw 35 15 rfl rfl, TX6, 15, tyX6, cl_X6⟩
theorem cb_X6_38 : CBV RX6 38 yX6_accepts cX6_accepts 2 (some .boolean) 1 7 := ⟨⟨mw 35 22 rfl rfl, mw 1 15 rfl rfl, mw 35 25 rfl rfl, by decide, by decide, by decide +kernel⟩, mw 35 23 rfl rfl, mw 35 24 rfl rfl, TX6, 15, tyX6, cl_X6⟩
theorem cb_X6_42 : CBV RX6 42 yX6_next cX6_next 1 (some .char) 0 7 := ⟨⟨mw 35 18 rfl rfl, mw 1 15 rfl rfl, mw 35 21 rfl rfl, by decide, by decide, by decide +kernel⟩, mw 35 19 rfl rfl, mw 35 20 rfl rfl, TX6, 15, tyX6, cl_X6⟩
theorem cb_X6_50 : CBV RX6 50 yX6_isSheetItem cX6_isSheetItem 1 (some .boolean) 0 7 := ⟨⟨mw 35 26 rfl rfl, mw 1 15 rfl rfl, mw 35 29 rfl rfl, by decide, by decide, by decide +kernel⟩, mw 35 27 rfl rfl, mw 35 28 rfl rfl, TX6, 15, tyX6, cl_X6⟩
theorem cb_X6_53 : CBV RX6 53 yX6_isShapeItem cX6_isShapeItem 1 (some .boolean) 0 7 := ⟨⟨mw 36 10 rfl rfl, mw 1 15 rfl rfl, mw 36 13 rfl rfl, by decide, by decide, by decide +kernel⟩, mw 36 11 rfl rfl, mw 36 12 rfl rfl, TX6, 15, tyX6, cl_X6⟩
theorem cb_X6_56 : CBV RX6 56 yX6_isSpoilItem cX6_isSpoilItem 1 (some .boolean) 0 7 := ⟨⟨mw 36 30 rfl rfl, mw 1 15 rfl rfl, mw 37 1 rfl rfl, by decide, by decide, by decide +kernel⟩, mw 36 31 rfl rfl, mw 37 0 rfl rfl, TX6, 15, tyX6, cl_X6⟩
theorem cb_X6_59 : CBV RX6 59 yX6_isNumber cX6_isNumber 2 (some .boolean) 0 7 := ⟨⟨mw 36 2 rfl rfl, mw 1 15 rfl rfl, mw 36 5 rfl rfl, by decide, by decide, by decide +kernel⟩, mw 36 3 rfl rfl, mw 36 4 rfl rfl, TX6, 15, tyX6, cl_X6⟩
theorem cb_X6_74 : CBV RX6 74 yX6_isRows cX6_isRows 2 (some .boolean) 0 7 := ⟨⟨mw 36 14 rfl rfl, mw 1 15 rfl rfl, mw 36 17 rfl rfl, by decide, by decide, by decide +kernel⟩, mw 36 15 rfl rfl, mw 36 16 rfl rfl, TX6, 15, tyX6, cl_X6⟩
theorem cb_X6_77 : CBV RX6 77 yX6_isDigit cX6_isDigit 1 (some .boolean) 0 7 := ⟨⟨mw 36 6 rfl rfl, mw 1 15 rfl rfl, mw 36 9 rfl rfl, by decide, by decide, by decide +kernel⟩, mw 36 7 rfl rfl, mw 36 8 rfl rfl, TX6, 15, tyX6, cl_X6⟩
theorem cb_X6_93 : CBV RX6 93 yX6_isRow cX6_isRow 3 (some .boolean) 0 7 := ⟨⟨mw 36 22 rfl rfl, mw 1 15 rfl rfl, mw 36 25 rfl rfl, by decide, by decide, by decide +kernel⟩, mw 36 23 rfl rfl, mw 36 24 rfl rfl, TX6, 15, tyX6, cl_X6⟩
theorem cb_X6_96 : CBV RX6 96 yX6_cover cX6_cover 2 none 1 7 := ⟨⟨mw 36 26 rfl rfl, mw 1 15 rfl rfl, mw 36 29 rfl rfl, by decide, by decide, by decide +kernel⟩, mw 36 27 rfl rfl, mw 36 28 rfl rfl, TX6, 15, tyX6, cl_X6⟩
theorem cb_X6_100 : CBV RX6 100 yX6_carryOutSheet cX6_carryOutSheet 2 (some .boolean) 1 7 := ⟨⟨mw 37 14 rfl rfl, mw 1 15 rfl rfl, mw 37 17 rfl rfl, by decide, by decide, by decide +kernel⟩, mw 37 15 rfl rfl, mw 37 16 rfl rfl, TX6, 15, tyX6, cl_X6⟩
theorem cb_X6_104 : CBV RX6 104 yX6_carryOutShape cX6_carryOutShape 2 (some .boolean) 1 7 := ⟨⟨mw 37 26 rfl rfl, mw 1 15 rfl rfl, mw 37 29 rfl rfl, by decide, by decide, by decide +kernel⟩, mw 37 27 rfl rfl, mw 37 28 rfl rfl, TX6, 15, tyX6, cl_X6⟩
theorem cb_X6_107 : CBV RX6 107 yX6_carryOutSpoil cX6_carryOutSpoil 2 (some .boolean) 1 7 := ⟨⟨mw 38 0 rfl rfl, mw 1 15 rfl rfl, mw 38 3 rfl rfl, by decide, by decide, by decide +kernel⟩, mw 38 1 rfl rfl, mw 38 2 rfl rfl, TX6, 15, tyX6, cl_X6⟩
theorem cb_X6_110 : CBN RX6 110 yX10_isSheetSide cX10_isSheetSide 1 (some .boolean) 1 := ⟨by decide, mw 0 2 rfl rfl, mw 5 16 rfl rfl, by decide, by decide, by decide +kernel, mw 5 15 rfl rfl⟩
theorem cb_X6_114 : CBV RX6 114 yX6_fail cX6_fail 3 (some .boolean) 2 7 := ⟨⟨mw 37 18 rfl rfl, mw 1 15 rfl rfl, mw 37 21 rfl rfl, by decide, by decide, by decide +kernel⟩, mw 37 19 rfl rfl, mw 37 20 rfl rfl, TX6, 15, tyX6, cl_X6⟩
theorem cb_X6_124 : CBV RX6 124 yX9_isFull cX9_isFull 1 (some .boolean) 0 10 := ⟨⟨mw 37 24 rfl rfl, mw 1 24 rfl rfl, mw 5 23 rfl rfl, by decide, by decide, by decide +kernel⟩, mw 5 21 rfl rfl, mw 5 22 rfl rfl, TX9, 3, tyX9, cl_X9⟩
theorem cb_X6_129 : CBV RX6 129 yX8_createSheet cX8_createSheet 7 (some .int) 4 9 := ⟨⟨mw 37 25 rfl rfl, mw 0 16 rfl rfl, mw 6 20 rfl rfl, by decide, by decide, by decide +kernel⟩, mw 6 18 rfl rfl, mw 6 19 rfl rfl, TX8, 3, tyX8, cl_X8⟩
theorem cb_X6_133 : CBS RX6 133 yX3_isShape cX3_isShape 3 (some .boolean) 3 := ⟨⟨mw 37 30 rfl rfl, mw 8 15 rfl rfl, mw 8 16 rfl rfl, by decide, by decide, by decide +kernel⟩, mw 8 14 rfl rfl⟩
theorem cb_X6_142 : CBV RX6 142 yX8_createShape cX8_createShape 10 (some .int) 5 9 := ⟨⟨mw 37 31 rfl rfl, mw 0 16 rfl rfl, mw 9 0 rfl rfl, by decide, by decide, by decide +kernel⟩, mw 8 30 rfl rfl, mw 8 31 rfl rfl, TX8, 3, tyX8, cl_X8⟩
theorem cb_X6_146 : CBV RX6 146 yX9_has cX9_has 2 (some .boolean) 1 10 := ⟨⟨mw 38 4 rfl rfl, mw 1 24 rfl rfl, mw 10 25 rfl rfl, by decide, by decide, by decide +kernel⟩, mw 10 23 rfl rfl, mw 10 24 rfl rfl, TX9, 3, tyX9, cl_X9⟩
theorem cb_X6_149 : CBV RX6 149 yX8_cellsOf cX8_cellsOf 2 (some .int) 1 9 := ⟨⟨mw 38 5 rfl rfl, mw 0 16 rfl rfl, mw 10 29 rfl rfl, by decide, by decide, by decide +kernel⟩, mw 10 27 rfl rfl, mw 10 28 rfl rfl, TX8, 3, tyX8, cl_X8⟩
theorem cb_X6_153 : CBV RX6 153 yX8_onCell cX8_onCell 3 (some .int) 2 9 := ⟨⟨mw 38 6 rfl rfl, mw 0 16 rfl rfl, mw 11 13 rfl rfl, by decide, by decide, by decide +kernel⟩, mw 11 11 rfl rfl, mw 11 12 rfl rfl, TX8, 3, tyX8, cl_X8⟩
theorem cb_X6_157 : CBV RX6 157 yX8_setCell cX8_setCell 4 none 3 9 := ⟨⟨mw 38 7 rfl rfl, mw 0 16 rfl rfl, mw 7 1 rfl rfl, by decide, by decide, by decide +kernel⟩, mw 6 31 rfl rfl, mw 7 0 rfl rfl, TX8, 3, tyX8, cl_X8⟩
section
variable {p : Program} {l : Launch} {e : Env} {s : State} {m : MethodId} {args : Array Value} {below : List Frame} {meth : Method} {c : Code} {Q : State → Prop} {g : Geo}
def I_X6_length : List (Nat × Instr × Nat) := [(0, .aload_n 0, 1), (1, .getfield 15, 3), (4, .ireturn, 1)]
set_option maxRecDepth 100000 in
theorem T_X6_length : ∀ q ∈ I_X6_length, decode cX6_length q.1 = .ok (q.2.1, q.2.2) := by decide +kernel
def f_X6_length_0 (σ : St) : Option (Int32) :=
  some (σ 99 1)
set_option maxHeartbeats 4000000 in
set_option maxRecDepth 100000 in
theorem w_X6_length_0 (X : Cx g RX6 cX6_length 1 (some .int) p s m args meth c) (σ : St) {w : Int32} (KR : ∀ (H : Heap) (locs : List Loc) (ls : Array Slot) (pc : Nat), Wd g s σ H locs → decode cX6_length pc = .ok (.ireturn, 1) → W p l e (rmm 0 0) s m args below meth c H locs 0 0 Q (F0 m pc ls [.int (w)])) {H : Heap} {locs : List Loc} {ls : Array Slot} (Y : Wd g s σ H locs) (hl : lv_has ls 1 [(0, .ref (g.2.2 (99)))]) (h : f_X6_length_0 σ = some w) : W p l e (rmm 0 0) s m args below meth c H locs 0 0 Q (F0 m 0 ls []) := by
  unfold f_X6_length_0 at h
  refine lv_aload_n X.1 X.2.1 (dk T_X6_length 0 rfl) rfl (lv_at hl 0 rfl) ?_
  refine gg X Y fl_X6_15 rfl rfl (dk T_X6_length 1 rfl) ?_
  obtain rfl := Option.some.inj h
  exact KR _ _ _ _ Y (dk T_X6_length 2 rfl)
def f_X6_length (σ : St) : Option (Int32) := f_X6_length_0 σ
set_option maxHeartbeats 4000000 in
set_option maxRecDepth 100000 in
theorem c_X6_length {l : Launch} {g : Geo} (σ : St) {w : Int32} (h : f_X6_length σ = some w) : CtI l yX6_length cX6_length 1 (some .int) (rmm 0 0) g [.ref (g.2.2 (99))] σ w σ := enI .int (by decide) rfl rfl (Nat.le_of_ble_eq_true rfl) (fun p e s m args below meth c Q X Y ls hl KR => w_X6_length_0 X σ KR Y hl h)
def I_X6_isFull : List (Nat × Instr × Nat) := [(0, .aload_n 0, 1), (1, .getfield 15, 3), (4, .aload_n 0, 1), (5, .getfield 9, 3), (8, .arraylength, 1), (9, .if_icmp .lt 7, 3), (12, .iconst 1, 1), (13, .goto 4, 3), (16, .iconst 0, 1), (17, .ireturn, 1)]
set_option maxRecDepth 100000 in
theorem T_X6_isFull : ∀ q ∈ I_X6_isFull, decode cX6_isFull q.1 = .ok (q.2.1, q.2.2) := by decide +kernel
def f_X6_isFull_0 (σ : St) : Option (Int32) :=
  if (σ 99 1) < 70 then some 0 else some 1
set_option maxHeartbeats 4000000 in
set_option maxRecDepth 100000 in
theorem w_X6_isFull_0 (X : Cx g RX6 cX6_isFull 1 (some .boolean) p s m args meth c) (σ : St) {w : Int32} (KR : ∀ (H : Heap) (locs : List Loc) (ls : Array Slot) (pc : Nat), Wd g s σ H locs → decode cX6_isFull pc = .ok (.ireturn, 1) → W p l e (rmm 0 0) s m args below meth c H locs 0 0 Q (F0 m pc ls [.int (w)])) {H : Heap} {locs : List Loc} {ls : Array Slot} (Y : Wd g s σ H locs) (hl : lv_has ls 1 [(0, .ref (g.2.2 (99)))]) (h : f_X6_isFull_0 σ = some w) : W p l e (rmm 0 0) s m args below meth c H locs 0 0 Q (F0 m 0 ls []) := by
  unfold f_X6_isFull_0 at h
  refine lv_aload_n X.1 X.2.1 (dk T_X6_isFull 0 rfl) rfl (lv_at hl 0 rfl) ?_
  refine gg X Y fl_X6_15 rfl rfl (dk T_X6_isFull 1 rfl) ?_
  refine lv_aload_n X.1 X.2.1 (dk T_X6_isFull 2 rfl) rfl (lv_at hl 0 rfl) ?_
  refine gg X Y fl_X6_9 rfl rfl (dk T_X6_isFull 3 rfl) ?_
  refine gal X Y (i := 1) (v := 70) rfl (Nat.le_of_ble_eq_true rfl) (by decide) (dk T_X6_isFull 4 rfl) ?_
  refine lv_icmp_lt (tgt := 16) X.1 X.2.1 (dk T_X6_isFull 5 rfl) rfl (fun c1 => ?_) (fun c1 => ?_)
  · replace h := ipos c1 h
    refine lv_iconst (v := 0) X.1 X.2.1 (dk T_X6_isFull 8 rfl) ic_0 ?_
    obtain rfl := Option.some.inj h
    exact KR _ _ _ _ Y (dk T_X6_isFull 9 rfl)
  · replace h := ineg c1 h
    refine lv_iconst (v := 1) X.1 X.2.1 (dk T_X6_isFull 6 rfl) ic_1 ?_
    refine lv_goto (tgt := 17) X.1 X.2.1 (dk T_X6_isFull 7 rfl) rfl ?_
    obtain rfl := Option.some.inj h
    exact KR _ _ _ _ Y (dk T_X6_isFull 9 rfl)
def f_X6_isFull (σ : St) : Option (Int32) := bz (f_X6_isFull_0 σ)
set_option maxHeartbeats 4000000 in
set_option maxRecDepth 100000 in
theorem c_X6_isFull {l : Launch} {g : Geo} (σ : St) {w : Int32} (h : f_X6_isFull σ = some w) : CtI l yX6_isFull cX6_isFull 1 (some .boolean) (rmm 0 0) g [.ref (g.2.2 (99))] σ w σ := by
  obtain ⟨h, hz⟩ := bz_s h
  exact enI .boolean (by decide) rfl (bz_n hz) (Nat.le_of_ble_eq_true rfl) (fun p e s m args below meth c Q X Y ls hl KR => w_X6_isFull_0 X σ KR Y hl h)
def I_X6_append : List (Nat × Instr × Nat) := [(0, .aload_n 0, 1), (1, .getfield 15, 3), (4, .ifCond .lt 35, 3), (7, .aload_n 0, 1), (8, .getfield 15, 3), (11, .aload_n 0, 1), (12, .getfield 9, 3), (15, .arraylength, 1), (16, .if_icmp .ge 23, 3), (19, .aload_n 0, 1), (20, .getfield 9, 3), (23, .aload_n 0, 1), (24, .getfield 15, 3), (27, .iload_n 1, 1), (28, .castore, 1), (29, .aload_n 0, 1), (30, .dup, 1), (31, .getfield 15, 3), (34, .iconst 1, 1), (35, .iadd, 1), (36, .putfield 15, 3), (39, .aload_n 0, 1), (40, .getfield 15, 3), (43, .ireturn, 1)]
set_option maxRecDepth 100000 in
theorem T_X6_append : ∀ q ∈ I_X6_append, decode cX6_append q.1 = .ok (q.2.1, q.2.2) := by decide +kernel
def f_X6_append_j39 (σ : St) : Option (Int32 × St) :=
  some (σ 99 1, σ)
set_option maxHeartbeats 4000000 in
set_option maxRecDepth 100000 in
theorem w_X6_append_j39 (X : Cx g RX6 cX6_append 2 (some .int) p s m args meth c) (σ : St) {w : Int32 × St} (KR : ∀ (H : Heap) (locs : List Loc) (ls : Array Slot) (pc : Nat), Wd g s w.2 H locs → decode cX6_append pc = .ok (.ireturn, 1) → W p l e (rmm 0 0) s m args below meth c H locs 0 0 Q (F0 m pc ls [.int (w.1)])) {H : Heap} {locs : List Loc} {ls : Array Slot} (Y : Wd g s σ H locs) (hl : lv_has ls 2 [(0, .ref (g.2.2 (99)))]) (h : f_X6_append_j39 σ = some w) : W p l e (rmm 0 0) s m args below meth c H locs 0 0 Q (F0 m 39 ls []) := by
  unfold f_X6_append_j39 at h
  refine lv_aload_n X.1 X.2.1 (dk T_X6_append 21 rfl) rfl (lv_at hl 0 rfl) ?_
  refine gg X Y fl_X6_15 rfl rfl (dk T_X6_append 22 rfl) ?_
  obtain rfl := Option.some.inj h
  exact KR _ _ _ _ Y (dk T_X6_append 23 rfl)
def f_X6_append_0 (x1 : Int32) (σ : St) : Option (Int32 × St) :=
  if (σ 99 1) < 0 then f_X6_append_j39 σ else if 70 ≤ (σ 99 1) then f_X6_append_j39 σ else chk (inb (σ 99 1) 70) (f_X6_append_j39 (up (up σ 100 (σ 99 1).toNatClampNeg (vp_nar .char x1)) 99 1 ((up σ 100 (σ 99 1).toNatClampNeg (vp_nar .char x1) 99 1) + 1)))
set_option maxHeartbeats 4000000 in
set_option maxRecDepth 100000 in
theorem w_X6_append_0 (X : Cx g RX6 cX6_append 2 (some .int) p s m args meth c) (x1 : Int32) (σ : St) {w : Int32 × St} (KR : ∀ (H : Heap) (locs : List Loc) (ls : Array Slot) (pc : Nat), Wd g s w.2 H locs → decode cX6_append pc = .ok (.ireturn, 1) → W p l e (rmm 0 0) s m args below meth c H locs 0 0 Q (F0 m pc ls [.int (w.1)])) {H : Heap} {locs : List Loc} {ls : Array Slot} (Y : Wd g s σ H locs) (hl : lv_has ls 2 [(0, .ref (g.2.2 (99))), (1, .int (x1))]) (h : f_X6_append_0 x1 σ = some w) : W p l e (rmm 0 0) s m args below meth c H locs 0 0 Q (F0 m 0 ls []) := by
  unfold f_X6_append_0 at h
  refine lv_aload_n X.1 X.2.1 (dk T_X6_append 0 rfl) rfl (lv_at hl 0 rfl) ?_
  refine gg X Y fl_X6_15 rfl rfl (dk T_X6_append 1 rfl) ?_
  refine lv_if_lt (tgt := 39) X.1 X.2.1 (dk T_X6_append 2 rfl) rfl (fun c1 => ?_) (fun c1 => ?_)
  · replace h := ipos c1 h
    exact w_X6_append_j39 X σ KR Y (lv_sub hl [0] rfl) h
  · replace h := ineg c1 h
    refine lv_aload_n X.1 X.2.1 (dk T_X6_append 3 rfl) rfl (lv_at hl 0 rfl) ?_
    refine gg X Y fl_X6_15 rfl rfl (dk T_X6_append 4 rfl) ?_
    refine lv_aload_n X.1 X.2.1 (dk T_X6_append 5 rfl) rfl (lv_at hl 0 rfl) ?_
    refine gg X Y fl_X6_9 rfl rfl (dk T_X6_append 6 rfl) ?_
    refine gal X Y (i := 1) (v := 70) rfl (Nat.le_of_ble_eq_true rfl) (by decide) (dk T_X6_append 7 rfl) ?_
    refine lv_icmp_ge (tgt := 39) X.1 X.2.1 (dk T_X6_append 8 rfl) rfl (fun c2 => ?_) (fun c2 => ?_)
    · replace h := ipos c2 h
      exact w_X6_append_j39 X σ KR Y (lv_sub hl [0] rfl) h
    · replace h := ineg c2 h
      refine lv_aload_n X.1 X.2.1 (dk T_X6_append 9 rfl) rfl (lv_at hl 0 rfl) ?_
      refine gg X Y fl_X6_9 rfl rfl (dk T_X6_append 10 rfl) ?_
      refine lv_aload_n X.1 X.2.1 (dk T_X6_append 11 rfl) rfl (lv_at hl 0 rfl) ?_
      refine gg X Y fl_X6_15 rfl rfl (dk T_X6_append 12 rfl) ?_
      refine lv_iload_n X.1 X.2.1 (dk T_X6_append 13 rfl) rfl (lv_at hl 1 rfl) ?_
      obtain ⟨g3, h⟩ := gd h
      refine gcs X Y rfl (inp g3) (dk T_X6_append 14 rfl) (fun H locs Y => ?_)
      refine lv_aload_n X.1 X.2.1 (dk T_X6_append 15 rfl) rfl (lv_at hl 0 rfl) ?_
      refine lv_dup X.1 X.2.1 (dk T_X6_append 16 rfl) rfl ?_
      refine gg X Y fl_X6_15 rfl rfl (dk T_X6_append 17 rfl) ?_
      refine lv_iconst (v := 1) X.1 X.2.1 (dk T_X6_append 18 rfl) ic_1 ?_
      refine lv_iadd X.1 X.2.1 (dk T_X6_append 19 rfl) ?_
      refine gp X Y fp_X6_15 rfl (nar_int _) (dk T_X6_append 20 rfl) (fun H locs Y => ?_)
      exact w_X6_append_j39 X (up (up σ 100 (σ 99 1).toNatClampNeg (vp_nar .char x1)) 99 1 ((up σ 100 (σ 99 1).toNatClampNeg (vp_nar .char x1) 99 1) + 1)) KR Y (lv_sub hl [0] rfl) h
def f_X6_append (x1 : Int32) (σ : St) : Option (Int32 × St) := f_X6_append_0 x1 σ
set_option maxHeartbeats 4000000 in
set_option maxRecDepth 100000 in
theorem c_X6_append {l : Launch} {g : Geo} (x1 : Int32) (σ : St) {w : Int32 × St} (h : f_X6_append x1 σ = some w) : CtI l yX6_append cX6_append 2 (some .int) (rmm 0 0) g [.ref (g.2.2 (99)), .int (x1)] σ w.1 w.2 := enI .int (by decide) rfl rfl (Nat.le_of_ble_eq_true rfl) (fun p e s m args below meth c Q X Y ls hl KR => w_X6_append_0 X x1 σ KR Y hl h)
def I_X6_rewind : List (Nat × Instr × Nat) := [(0, .aload_n 0, 1), (1, .iconst 0, 1), (2, .putfield 19, 3), (5, .return_, 1)]
set_option maxRecDepth 100000 in
theorem T_X6_rewind : ∀ q ∈ I_X6_rewind, decode cX6_rewind q.1 = .ok (q.2.1, q.2.2) := by decide +kernel
def f_X6_rewind_0 (σ : St) : Option (St) :=
  some (up σ 99 2 0)
set_option maxHeartbeats 4000000 in
set_option maxRecDepth 100000 in
theorem w_X6_rewind_0 (X : Cx g RX6 cX6_rewind 1 none p s m args meth c) (σ : St) {w : St} (KR : ∀ (H : Heap) (locs : List Loc) (ls : Array Slot) (pc : Nat), Wd g s w H locs → decode cX6_rewind pc = .ok (.return_, 1) → W p l e (rmm 0 0) s m args below meth c H locs 0 0 Q (F0 m pc ls [])) {H : Heap} {locs : List Loc} {ls : Array Slot} (Y : Wd g s σ H locs) (hl : lv_has ls 1 [(0, .ref (g.2.2 (99)))]) (h : f_X6_rewind_0 σ = some w) : W p l e (rmm 0 0) s m args below meth c H locs 0 0 Q (F0 m 0 ls []) := by
  unfold f_X6_rewind_0 at h
  refine lv_aload_n X.1 X.2.1 (dk T_X6_rewind 0 rfl) rfl (lv_at hl 0 rfl) ?_
  refine lv_iconst (v := 0) X.1 X.2.1 (dk T_X6_rewind 1 rfl) ic_0 ?_
  refine gp X Y fp_X6_19 rfl (nar_int _) (dk T_X6_rewind 2 rfl) (fun H locs Y => ?_)
  obtain rfl := Option.some.inj h
  exact KR _ _ _ _ Y (dk T_X6_rewind 3 rfl)
def f_X6_rewind (σ : St) : Option (St) := f_X6_rewind_0 σ
set_option maxHeartbeats 4000000 in
set_option maxRecDepth 100000 in
theorem c_X6_rewind {l : Launch} {g : Geo} (σ : St) {w : St} (h : f_X6_rewind σ = some w) : CtV l yX6_rewind cX6_rewind 1 none (rmm 0 0) g [.ref (g.2.2 (99))] σ w := enV (by decide) rfl (Nat.le_of_ble_eq_true rfl) (fun p e s m args below meth c Q X Y ls hl KR => w_X6_rewind_0 X σ KR Y hl h)
def I_X6_next : List (Nat × Instr × Nat) := [(0, .aload_n 0, 1), (1, .getfield 19, 3), (4, .ifCond .lt 38, 3), (7, .aload_n 0, 1), (8, .getfield 19, 3), (11, .aload_n 0, 1), (12, .getfield 15, 3), (15, .if_icmp .ge 27, 3), (18, .aload_n 0, 1), (19, .getfield 19, 3), (22, .aload_n 0, 1), (23, .getfield 9, 3), (26, .arraylength, 1), (27, .if_icmp .ge 15, 3), (30, .aload_n 0, 1), (31, .getfield 9, 3), (34, .aload_n 0, 1), (35, .getfield 19, 3), (38, .caload, 1), (39, .goto 4, 3), (42, .iconst 0, 1), (43, .ireturn, 1)]
set_option maxRecDepth 100000 in
theorem T_X6_next : ∀ q ∈ I_X6_next, decode cX6_next q.1 = .ok (q.2.1, q.2.2) := by decide +kernel
def f_X6_next_0 (σ : St) : Option (Int32) :=
  if (σ 99 2) < 0 then some 0 else if (σ 99 1) ≤ (σ 99 2) then some 0 else if 70 ≤ (σ 99 2) then some 0 else chk (inb (σ 99 2) 70) (some (σ 100 (σ 99 2).toNatClampNeg))
set_option maxHeartbeats 4000000 in
set_option maxRecDepth 100000 in
theorem w_X6_next_0 (X : Cx g RX6 cX6_next 1 (some .char) p s m args meth c) (σ : St) {w : Int32} (KR : ∀ (H : Heap) (locs : List Loc) (ls : Array Slot) (pc : Nat), Wd g s σ H locs → decode cX6_next pc = .ok (.ireturn, 1) → W p l e (rmm 0 0) s m args below meth c H locs 0 0 Q (F0 m pc ls [.int (w)])) {H : Heap} {locs : List Loc} {ls : Array Slot} (Y : Wd g s σ H locs) (hl : lv_has ls 1 [(0, .ref (g.2.2 (99)))]) (h : f_X6_next_0 σ = some w) : W p l e (rmm 0 0) s m args below meth c H locs 0 0 Q (F0 m 0 ls []) := by
  unfold f_X6_next_0 at h
  refine lv_aload_n X.1 X.2.1 (dk T_X6_next 0 rfl) rfl (lv_at hl 0 rfl) ?_
  refine gg X Y fl_X6_19 rfl rfl (dk T_X6_next 1 rfl) ?_
  refine lv_if_lt (tgt := 42) X.1 X.2.1 (dk T_X6_next 2 rfl) rfl (fun c1 => ?_) (fun c1 => ?_)
  · replace h := ipos c1 h
    refine lv_iconst (v := 0) X.1 X.2.1 (dk T_X6_next 20 rfl) ic_0 ?_
    obtain rfl := Option.some.inj h
    exact KR _ _ _ _ Y (dk T_X6_next 21 rfl)
  · replace h := ineg c1 h
    refine lv_aload_n X.1 X.2.1 (dk T_X6_next 3 rfl) rfl (lv_at hl 0 rfl) ?_
    refine gg X Y fl_X6_19 rfl rfl (dk T_X6_next 4 rfl) ?_
    refine lv_aload_n X.1 X.2.1 (dk T_X6_next 5 rfl) rfl (lv_at hl 0 rfl) ?_
    refine gg X Y fl_X6_15 rfl rfl (dk T_X6_next 6 rfl) ?_
    refine lv_icmp_ge (tgt := 42) X.1 X.2.1 (dk T_X6_next 7 rfl) rfl (fun c2 => ?_) (fun c2 => ?_)
    · replace h := ipos c2 h
      refine lv_iconst (v := 0) X.1 X.2.1 (dk T_X6_next 20 rfl) ic_0 ?_
      obtain rfl := Option.some.inj h
      exact KR _ _ _ _ Y (dk T_X6_next 21 rfl)
    · replace h := ineg c2 h
      refine lv_aload_n X.1 X.2.1 (dk T_X6_next 8 rfl) rfl (lv_at hl 0 rfl) ?_
      refine gg X Y fl_X6_19 rfl rfl (dk T_X6_next 9 rfl) ?_
      refine lv_aload_n X.1 X.2.1 (dk T_X6_next 10 rfl) rfl (lv_at hl 0 rfl) ?_
      refine gg X Y fl_X6_9 rfl rfl (dk T_X6_next 11 rfl) ?_
      refine gal X Y (i := 1) (v := 70) rfl (Nat.le_of_ble_eq_true rfl) (by decide) (dk T_X6_next 12 rfl) ?_
      refine lv_icmp_ge (tgt := 42) X.1 X.2.1 (dk T_X6_next 13 rfl) rfl (fun c3 => ?_) (fun c3 => ?_)
      · replace h := ipos c3 h
        refine lv_iconst (v := 0) X.1 X.2.1 (dk T_X6_next 20 rfl) ic_0 ?_
        obtain rfl := Option.some.inj h
        exact KR _ _ _ _ Y (dk T_X6_next 21 rfl)
      · replace h := ineg c3 h
        refine lv_aload_n X.1 X.2.1 (dk T_X6_next 14 rfl) rfl (lv_at hl 0 rfl) ?_
        refine gg X Y fl_X6_9 rfl rfl (dk T_X6_next 15 rfl) ?_
        refine lv_aload_n X.1 X.2.1 (dk T_X6_next 16 rfl) rfl (lv_at hl 0 rfl) ?_
        refine gg X Y fl_X6_19 rfl rfl (dk T_X6_next 17 rfl) ?_
        obtain ⟨g4, h⟩ := gd h
        refine gcl X Y rfl (inp g4) (dk T_X6_next 18 rfl) ?_
        refine lv_goto (tgt := 43) X.1 X.2.1 (dk T_X6_next 19 rfl) rfl ?_
        obtain rfl := Option.some.inj h
        exact KR _ _ _ _ Y (dk T_X6_next 21 rfl)
def f_X6_next (σ : St) : Option (Int32) := bc (f_X6_next_0 σ)
set_option maxHeartbeats 4000000 in
set_option maxRecDepth 100000 in
theorem c_X6_next {l : Launch} {g : Geo} (σ : St) {w : Int32} (h : f_X6_next σ = some w) : CtI l yX6_next cX6_next 1 (some .char) (rmm 0 0) g [.ref (g.2.2 (99))] σ w σ := by
  obtain ⟨h, hz⟩ := bc_s h
  exact enI .char (by decide) rfl (bc_n hz) (Nat.le_of_ble_eq_true rfl) (fun p e s m args below meth c Q X Y ls hl KR => w_X6_next_0 X σ KR Y hl h)
def I_X6_accepts : List (Nat × Instr × Nat) := [(0, .aload_n 0, 1), (1, .invokevirtual 42, 3), (4, .iload_n 1, 1), (5, .if_icmp .eq 5, 3), (8, .iconst 0, 1), (9, .ireturn, 1), (10, .aload_n 0, 1), (11, .dup, 1), (12, .getfield 19, 3), (15, .iconst 1, 1), (16, .iadd, 1), (17, .putfield 19, 3), (20, .iconst 1, 1), (21, .ireturn, 1)]
set_option maxRecDepth 100000 in
theorem T_X6_accepts : ∀ q ∈ I_X6_accepts, decode cX6_accepts q.1 = .ok (q.2.1, q.2.2) := by decide +kernel
def f_X6_accepts_0 (x1 : Int32) (σ : St) : Option (Int32 × St) :=
  (f_X6_next σ).bind fun q1 => if q1 = x1 then some (1, up σ 99 2 ((σ 99 2) + 1)) else some (0, σ)
set_option maxHeartbeats 4000000 in
set_option maxRecDepth 100000 in
theorem w_X6_accepts_0 (X : Cx g RX6 cX6_accepts 2 (some .boolean) p s m args meth c) (x1 : Int32) (σ : St) {w : Int32 × St} (KR : ∀ (H : Heap) (locs : List Loc) (ls : Array Slot) (pc : Nat), Wd g s w.2 H locs → decode cX6_accepts pc = .ok (.ireturn, 1) → W p l e (rmm 1 20) s m args below meth c H locs 0 0 Q (F0 m pc ls [.int (w.1)])) {H : Heap} {locs : List Loc} {ls : Array Slot} (Y : Wd g s σ H locs) (hl : lv_has ls 2 [(0, .ref (g.2.2 (99))), (1, .int (x1))]) (h : f_X6_accepts_0 x1 σ = some w) : W p l e (rmm 1 20) s m args below meth c H locs 0 0 Q (F0 m 0 ls []) := by
  unfold f_X6_accepts_0 at h
  refine lv_aload_n X.1 X.2.1 (dk T_X6_accepts 0 rfl) rfl (lv_at hl 0 rfl) ?_
  obtain ⟨q1, hq1, h⟩ := bs h
  refine gvI (rest := []) X Y (c_X6_next σ hq1) cb_X6_42 rfl hl.1 rfl rfl (Nat.le_of_ble_eq_true rfl) ⟨Nat.le_of_ble_eq_true rfl, Nat.le_of_ble_eq_true rfl⟩ (dk T_X6_accepts 1 rfl) (fun H locs Y => ?_)
  refine lv_iload_n X.1 X.2.1 (dk T_X6_accepts 2 rfl) rfl (lv_at hl 1 rfl) ?_
  refine lv_icmp_eq (tgt := 10) X.1 X.2.1 (dk T_X6_accepts 3 rfl) rfl (fun c2 => ?_) (fun c2 => ?_)
  · replace h := ipos c2 h
    refine lv_aload_n X.1 X.2.1 (dk T_X6_accepts 6 rfl) rfl (lv_at hl 0 rfl) ?_
    refine lv_dup X.1 X.2.1 (dk T_X6_accepts 7 rfl) rfl ?_
    refine gg X Y fl_X6_19 rfl rfl (dk T_X6_accepts 8 rfl) ?_
    refine lv_iconst (v := 1) X.1 X.2.1 (dk T_X6_accepts 9 rfl) ic_1 ?_
    refine lv_iadd X.1 X.2.1 (dk T_X6_accepts 10 rfl) ?_
    refine gp X Y fp_X6_19 rfl (nar_int _) (dk T_X6_accepts 11 rfl) (fun H locs Y => ?_)
    refine lv_iconst (v := 1) X.1 X.2.1 (dk T_X6_accepts 12 rfl) ic_1 ?_
    obtain rfl := Option.some.inj h
    exact KR _ _ _ _ Y (dk T_X6_accepts 13 rfl)
  · replace h := ineg c2 h
    refine lv_iconst (v := 0) X.1 X.2.1 (dk T_X6_accepts 4 rfl) ic_0 ?_
    obtain rfl := Option.some.inj h
    exact KR _ _ _ _ Y (dk T_X6_accepts 5 rfl)
def f_X6_accepts (x1 : Int32) (σ : St) : Option (Int32 × St) := bzW (f_X6_accepts_0 x1 σ)
set_option maxHeartbeats 4000000 in
set_option maxRecDepth 100000 in
theorem c_X6_accepts {l : Launch} {g : Geo} (x1 : Int32) (σ : St) {w : Int32 × St} (h : f_X6_accepts x1 σ = some w) : CtI l yX6_accepts cX6_accepts 2 (some .boolean) (rmm 1 20) g [.ref (g.2.2 (99)), .int (x1)] σ w.1 w.2 := by
  obtain ⟨h, hz⟩ := bzW_s h
  exact enI .boolean (by decide) rfl (bz_n hz) (Nat.le_of_ble_eq_true rfl) (fun p e s m args below meth c Q X Y ls hl KR => w_X6_accepts_0 X x1 σ KR Y hl h)
def I_X6_isDigit : List (Nat × Instr × Nat) := [(0, .aload_n 0, 1), (1, .invokevirtual 42, 3), (4, .bipush 48, 2), (6, .if_icmp .lt 12, 3), (9, .aload_n 0, 1), (10, .invokevirtual 42, 3), (13, .bipush 57, 2), (15, .if_icmp .le 5, 3), (18, .iconst 0, 1), (19, .ireturn, 1), (20, .aload_n 0, 1), (21, .aload_n 0, 1), (22, .invokevirtual 42, 3), (25, .bipush 48, 2), (27, .isub, 1), (28, .putfield 62, 3), (31, .aload_n 0, 1), (32, .dup, 1), (33, .getfield 19, 3), (36, .iconst 1, 1), (37, .iadd, 1), (38, .putfield 19, 3), (41, .iconst 1, 1), (42, .ireturn, 1)]
set_option maxRecDepth 100000 in
theorem T_X6_isDigit : ∀ q ∈ I_X6_isDigit, decode cX6_isDigit q.1 = .ok (q.2.1, q.2.2) := by decide +kernel
def f_X6_isDigit_0 (σ : St) : Option (Int32 × St) :=
  (f_X6_next σ).bind fun q1 => if q1 < 48 then some (0, σ) else (f_X6_next σ).bind fun q3 => if q3 ≤ 57 then (f_X6_next σ).bind fun q5 => some (1, up (up σ 99 5 (q5 - 48)) 99 2 ((up σ 99 5 (q5 - 48) 99 2) + 1)) else some (0, σ)
set_option maxHeartbeats 4000000 in
set_option maxRecDepth 100000 in
theorem w_X6_isDigit_0 (X : Cx g RX6 cX6_isDigit 1 (some .boolean) p s m args meth c) (σ : St) {w : Int32 × St} (KR : ∀ (H : Heap) (locs : List Loc) (ls : Array Slot) (pc : Nat), Wd g s w.2 H locs → decode cX6_isDigit pc = .ok (.ireturn, 1) → W p l e (rmm 1 20) s m args below meth c H locs 0 0 Q (F0 m pc ls [.int (w.1)])) {H : Heap} {locs : List Loc} {ls : Array Slot} (Y : Wd g s σ H locs) (hl : lv_has ls 1 [(0, .ref (g.2.2 (99)))]) (h : f_X6_isDigit_0 σ = some w) : W p l e (rmm 1 20) s m args below meth c H locs 0 0 Q (F0 m 0 ls []) := by
  unfold f_X6_isDigit_0 at h
  refine lv_aload_n X.1 X.2.1 (dk T_X6_isDigit 0 rfl) rfl (lv_at hl 0 rfl) ?_
  obtain ⟨q1, hq1, h⟩ := bs h
  refine gvI (rest := []) X Y (c_X6_next σ hq1) cb_X6_42 rfl hl.1 rfl rfl (Nat.le_of_ble_eq_true rfl) ⟨Nat.le_of_ble_eq_true rfl, Nat.le_of_ble_eq_true rfl⟩ (dk T_X6_isDigit 1 rfl) (fun H locs Y => ?_)
  refine lv_bipush (v := 48) X.1 X.2.1 (dk T_X6_isDigit 2 rfl) bp_48 ?_
  refine lv_icmp_lt (tgt := 18) X.1 X.2.1 (dk T_X6_isDigit 3 rfl) rfl (fun c2 => ?_) (fun c2 => ?_)
  · replace h := ipos c2 h
    refine lv_iconst (v := 0) X.1 X.2.1 (dk T_X6_isDigit 8 rfl) ic_0 ?_
    obtain rfl := Option.some.inj h
    exact KR _ _ _ _ Y (dk T_X6_isDigit 9 rfl)
  · replace h := ineg c2 h
    refine lv_aload_n X.1 X.2.1 (dk T_X6_isDigit 4 rfl) rfl (lv_at hl 0 rfl) ?_
    obtain ⟨q3, hq3, h⟩ := bs h
    refine gvI (rest := []) X Y (c_X6_next σ hq3) cb_X6_42 rfl hl.1 rfl rfl (Nat.le_of_ble_eq_true rfl) ⟨Nat.le_of_ble_eq_true rfl, Nat.le_of_ble_eq_true rfl⟩ (dk T_X6_isDigit 5 rfl) (fun H locs Y => ?_)
    refine lv_bipush (v := 57) X.1 X.2.1 (dk T_X6_isDigit 6 rfl) bp_57 ?_
    refine lv_icmp_le (tgt := 20) X.1 X.2.1 (dk T_X6_isDigit 7 rfl) rfl (fun c4 => ?_) (fun c4 => ?_)
    · replace h := ipos c4 h
      refine lv_aload_n X.1 X.2.1 (dk T_X6_isDigit 10 rfl) rfl (lv_at hl 0 rfl) ?_
      refine lv_aload_n X.1 X.2.1 (dk T_X6_isDigit 11 rfl) rfl (lv_at hl 0 rfl) ?_
      obtain ⟨q5, hq5, h⟩ := bs h
      refine gvI (rest := [.ref (g.2.2 (99))]) X Y (c_X6_next σ hq5) cb_X6_42 rfl hl.1 rfl rfl (Nat.le_of_ble_eq_true rfl) ⟨Nat.le_of_ble_eq_true rfl, Nat.le_of_ble_eq_true rfl⟩ (dk T_X6_isDigit 12 rfl) (fun H locs Y => ?_)
      refine lv_bipush (v := 48) X.1 X.2.1 (dk T_X6_isDigit 13 rfl) bp_48 ?_
      refine lv_isub X.1 X.2.1 (dk T_X6_isDigit 14 rfl) ?_
      refine gp X Y fp_X6_62 rfl (nar_int _) (dk T_X6_isDigit 15 rfl) (fun H locs Y => ?_)
      refine lv_aload_n X.1 X.2.1 (dk T_X6_isDigit 16 rfl) rfl (lv_at hl 0 rfl) ?_
      refine lv_dup X.1 X.2.1 (dk T_X6_isDigit 17 rfl) rfl ?_
      refine gg X Y fl_X6_19 rfl rfl (dk T_X6_isDigit 18 rfl) ?_
      refine lv_iconst (v := 1) X.1 X.2.1 (dk T_X6_isDigit 19 rfl) ic_1 ?_
      refine lv_iadd X.1 X.2.1 (dk T_X6_isDigit 20 rfl) ?_
      refine gp X Y fp_X6_19 rfl (nar_int _) (dk T_X6_isDigit 21 rfl) (fun H locs Y => ?_)
      refine lv_iconst (v := 1) X.1 X.2.1 (dk T_X6_isDigit 22 rfl) ic_1 ?_
      obtain rfl := Option.some.inj h
      exact KR _ _ _ _ Y (dk T_X6_isDigit 23 rfl)
    · replace h := ineg c4 h
      refine lv_iconst (v := 0) X.1 X.2.1 (dk T_X6_isDigit 8 rfl) ic_0 ?_
      obtain rfl := Option.some.inj h
      exact KR _ _ _ _ Y (dk T_X6_isDigit 9 rfl)
def f_X6_isDigit (σ : St) : Option (Int32 × St) := bzW (f_X6_isDigit_0 σ)
set_option maxHeartbeats 4000000 in
set_option maxRecDepth 100000 in
theorem c_X6_isDigit {l : Launch} {g : Geo} (σ : St) {w : Int32 × St} (h : f_X6_isDigit σ = some w) : CtI l yX6_isDigit cX6_isDigit 1 (some .boolean) (rmm 1 20) g [.ref (g.2.2 (99))] σ w.1 w.2 := by
  obtain ⟨h, hz⟩ := bzW_s h
  exact enI .boolean (by decide) rfl (bz_n hz) (Nat.le_of_ble_eq_true rfl) (fun p e s m args below meth c Q X Y ls hl KR => w_X6_isDigit_0 X σ KR Y hl h)
def I_X6_isNumber : List (Nat × Instr × Nat) := [(0, .aload_n 0, 1), (1, .invokevirtual 77, 3), (4, .ifCond .ne 5, 3), (7, .iconst 0, 1), (8, .ireturn, 1), (9, .aload_n 0, 1), (10, .getfield 62, 3), (13, .istore_n 1, 1), (14, .aload_n 0, 1), (15, .aload_n 0, 1), (16, .invokevirtual 77, 3), (19, .ifCond .eq 15, 3), (22, .iload_n 1, 1), (23, .bipush 10, 2), (25, .imul, 1), (26, .aload_n 0, 1), (27, .getfield 62, 3), (30, .iadd, 1), (31, .goto 4, 3), (34, .iload_n 1, 1), (35, .putfield 62, 3), (38, .iconst 1, 1), (39, .ireturn, 1)]
set_option maxRecDepth 100000 in
theorem T_X6_isNumber : ∀ q ∈ I_X6_isNumber, decode cX6_isNumber q.1 = .ok (q.2.1, q.2.2) := by decide +kernel
def f_X6_isNumber_j35 (s0 : Int32) (σ : St) : Option (Int32 × St) :=
  some (1, up σ 99 5 s0)
set_option maxHeartbeats 4000000 in
set_option maxRecDepth 100000 in
theorem w_X6_isNumber_j35 (X : Cx g RX6 cX6_isNumber 2 (some .boolean) p s m args meth c) (s0 : Int32) (σ : St) {w : Int32 × St} (KR : ∀ (H : Heap) (locs : List Loc) (ls : Array Slot) (pc : Nat), Wd g s w.2 H locs → decode cX6_isNumber pc = .ok (.ireturn, 1) → W p l e (rmm 2 40) s m args below meth c H locs 0 0 Q (F0 m pc ls [.int (w.1)])) {H : Heap} {locs : List Loc} {ls : Array Slot} (Y : Wd g s σ H locs) (hl : lv_has ls 2 []) (h : f_X6_isNumber_j35 s0 σ = some w) : W p l e (rmm 2 40) s m args below meth c H locs 0 0 Q (F0 m 35 ls [.int (s0), .ref (g.2.2 (99))]) := by
  unfold f_X6_isNumber_j35 at h
  refine gp X Y fp_X6_62 rfl (nar_int _) (dk T_X6_isNumber 20 rfl) (fun H locs Y => ?_)
  refine lv_iconst (v := 1) X.1 X.2.1 (dk T_X6_isNumber 21 rfl) ic_1 ?_
  obtain rfl := Option.some.inj h
  exact KR _ _ _ _ Y (dk T_X6_isNumber 22 rfl)
def f_X6_isNumber_0 (σ : St) : Option (Int32 × St) :=
  (f_X6_isDigit σ).bind fun q1 => if q1.1 = 0 then some (0, q1.2) else (f_X6_isDigit q1.2).bind fun q3 => if q3.1 = 0 then f_X6_isNumber_j35 (q1.2 99 5) q3.2 else f_X6_isNumber_j35 (((q1.2 99 5) * 10) + (q3.2 99 5)) q3.2
set_option maxHeartbeats 4000000 in
set_option maxRecDepth 100000 in
theorem w_X6_isNumber_0 (X : Cx g RX6 cX6_isNumber 2 (some .boolean) p s m args meth c) (σ : St) {w : Int32 × St} (KR : ∀ (H : Heap) (locs : List Loc) (ls : Array Slot) (pc : Nat), Wd g s w.2 H locs → decode cX6_isNumber pc = .ok (.ireturn, 1) → W p l e (rmm 2 40) s m args below meth c H locs 0 0 Q (F0 m pc ls [.int (w.1)])) {H : Heap} {locs : List Loc} {ls : Array Slot} (Y : Wd g s σ H locs) (hl : lv_has ls 2 [(0, .ref (g.2.2 (99)))]) (h : f_X6_isNumber_0 σ = some w) : W p l e (rmm 2 40) s m args below meth c H locs 0 0 Q (F0 m 0 ls []) := by
  unfold f_X6_isNumber_0 at h
  refine lv_aload_n X.1 X.2.1 (dk T_X6_isNumber 0 rfl) rfl (lv_at hl 0 rfl) ?_
  obtain ⟨q1, hq1, h⟩ := bs h
  refine gvI (rest := []) X Y (c_X6_isDigit σ hq1) cb_X6_77 rfl hl.1 rfl rfl (Nat.le_of_ble_eq_true rfl) ⟨Nat.le_of_ble_eq_true rfl, Nat.le_of_ble_eq_true rfl⟩ (dk T_X6_isNumber 1 rfl) (fun H locs Y => ?_)
  refine lv_if_ne (tgt := 9) X.1 X.2.1 (dk T_X6_isNumber 2 rfl) rfl (fun c2 => ?_) (fun c2 => ?_)
  · replace h := ineg c2 h
    refine lv_aload_n X.1 X.2.1 (dk T_X6_isNumber 5 rfl) rfl (lv_at hl 0 rfl) ?_
    refine gg X Y fl_X6_62 rfl rfl (dk T_X6_isNumber 6 rfl) ?_
    refine lv_istore_n (lv' := [(1, .int (q1.2 99 5)), (0, .ref (g.2.2 (99)))]) X.1 X.2.1 (dk T_X6_isNumber 7 rfl) rfl hl (Nat.le_of_ble_eq_true rfl) rfl (fun ls hl => ?_)
    refine lv_aload_n X.1 X.2.1 (dk T_X6_isNumber 8 rfl) rfl (lv_at hl 1 rfl) ?_
    refine lv_aload_n X.1 X.2.1 (dk T_X6_isNumber 9 rfl) rfl (lv_at hl 1 rfl) ?_
    obtain ⟨q3, hq3, h⟩ := bs h
    refine gvI (rest := [.ref (g.2.2 (99))]) X Y (c_X6_isDigit q1.2 hq3) cb_X6_77 rfl hl.1 rfl rfl (Nat.le_of_ble_eq_true rfl) ⟨Nat.le_of_ble_eq_true rfl, Nat.le_of_ble_eq_true rfl⟩ (dk T_X6_isNumber 10 rfl) (fun H locs Y => ?_)
    refine lv_if_eq (tgt := 34) X.1 X.2.1 (dk T_X6_isNumber 11 rfl) rfl (fun c4 => ?_) (fun c4 => ?_)
    · replace h := ipos c4 h
      refine lv_iload_n X.1 X.2.1 (dk T_X6_isNumber 19 rfl) rfl (lv_at hl 0 rfl) ?_
      exact w_X6_isNumber_j35 X (q1.2 99 5) q3.2 KR Y (lv_sub hl [] rfl) h
    · replace h := ineg c4 h
      refine lv_iload_n X.1 X.2.1 (dk T_X6_isNumber 12 rfl) rfl (lv_at hl 0 rfl) ?_
      refine lv_bipush (v := 10) X.1 X.2.1 (dk T_X6_isNumber 13 rfl) bp_10 ?_
      refine lv_imul X.1 X.2.1 (dk T_X6_isNumber 14 rfl) ?_
      refine lv_aload_n X.1 X.2.1 (dk T_X6_isNumber 15 rfl) rfl (lv_at hl 1 rfl) ?_
      refine gg X Y fl_X6_62 rfl rfl (dk T_X6_isNumber 16 rfl) ?_
      refine lv_iadd X.1 X.2.1 (dk T_X6_isNumber 17 rfl) ?_
      refine lv_goto (tgt := 35) X.1 X.2.1 (dk T_X6_isNumber 18 rfl) rfl ?_
      exact w_X6_isNumber_j35 X (((q1.2 99 5) * 10) + (q3.2 99 5)) q3.2 KR Y (lv_sub hl [] rfl) h
  · replace h := ipos c2 h
    refine lv_iconst (v := 0) X.1 X.2.1 (dk T_X6_isNumber 3 rfl) ic_0 ?_
    obtain rfl := Option.some.inj h
    exact KR _ _ _ _ Y (dk T_X6_isNumber 4 rfl)
def f_X6_isNumber (σ : St) : Option (Int32 × St) := bzW (f_X6_isNumber_0 σ)
set_option maxHeartbeats 4000000 in
set_option maxRecDepth 100000 in
theorem c_X6_isNumber {l : Launch} {g : Geo} (σ : St) {w : Int32 × St} (h : f_X6_isNumber σ = some w) : CtI l yX6_isNumber cX6_isNumber 2 (some .boolean) (rmm 2 40) g [.ref (g.2.2 (99))] σ w.1 w.2 := by
  obtain ⟨h, hz⟩ := bzW_s h
  exact enI .boolean (by decide) rfl (bz_n hz) (Nat.le_of_ble_eq_true rfl) (fun p e s m args below meth c Q X Y ls hl KR => w_X6_isNumber_0 X σ KR Y hl h)
def I_X6_isSheetItem : List (Nat × Instr × Nat) := [(0, .aload_n 0, 1), (1, .invokevirtual 59, 3), (4, .ifCond .ne 5, 3), (7, .iconst 0, 1), (8, .ireturn, 1), (9, .aload_n 0, 1), (10, .aload_n 0, 1), (11, .getfield 62, 3), (14, .putfield 65, 3), (17, .aload_n 0, 1), (18, .bipush 120, 2), (20, .invokevirtual 38, 3), (23, .ifCond .eq 10, 3), (26, .aload_n 0, 1), (27, .invokevirtual 59, 3), (30, .ifCond .ne 5, 3), (33, .iconst 0, 1), (34, .ireturn, 1), (35, .aload_n 0, 1), (36, .aload_n 0, 1), (37, .getfield 62, 3), (40, .putfield 68, 3), (43, .aload_n 0, 1), (44, .aload_n 0, 1), (45, .bipush 45, 2), (47, .invokevirtual 38, 3), (50, .ifCond .eq 7, 3), (53, .iconst 1, 1), (54, .goto 17, 3), (57, .aload_n 0, 1), (58, .bipush 124, 2), (60, .invokevirtual 38, 3), (63, .ifCond .eq 7, 3), (66, .iconst 2, 1), (67, .goto 4, 3), (70, .iconst 0, 1), (71, .putfield 71, 3), (74, .iconst 1, 1), (75, .ireturn, 1)]
set_option maxRecDepth 100000 in
theorem T_X6_isSheetItem : ∀ q ∈ I_X6_isSheetItem, decode cX6_isSheetItem q.1 = .ok (q.2.1, q.2.2) := by decide +kernel
def f_X6_isSheetItem_j71 (s0 : Int32) (σ : St) : Option (Int32 × St) :=
  some (1, up σ 99 8 s0)
set_option maxHeartbeats 4000000 in
set_option maxRecDepth 100000 in
theorem w_X6_isSheetItem_j71 (X : Cx g RX6 cX6_isSheetItem 1 (some .boolean) p s m args meth c) (s0 : Int32) (σ : St) {w : Int32 × St} (KR : ∀ (H : Heap) (locs : List Loc) (ls : Array Slot) (pc : Nat), Wd g s w.2 H locs → decode cX6_isSheetItem pc = .ok (.ireturn, 1) → W p l e (rmm 3 61) s m args below meth c H locs 0 0 Q (F0 m pc ls [.int (w.1)])) {H : Heap} {locs : List Loc} {ls : Array Slot} (Y : Wd g s σ H locs) (hl : lv_has ls 1 []) (h : f_X6_isSheetItem_j71 s0 σ = some w) : W p l e (rmm 3 61) s m args below meth c H locs 0 0 Q (F0 m 71 ls [.int (s0), .ref (g.2.2 (99))]) := by
  unfold f_X6_isSheetItem_j71 at h
  refine gp X Y fp_X6_71 rfl (nar_int _) (dk T_X6_isSheetItem 36 rfl) (fun H locs Y => ?_)
  refine lv_iconst (v := 1) X.1 X.2.1 (dk T_X6_isSheetItem 37 rfl) ic_1 ?_
  obtain rfl := Option.some.inj h
  exact KR _ _ _ _ Y (dk T_X6_isSheetItem 38 rfl)
def f_X6_isSheetItem_0 (σ : St) : Option (Int32 × St) :=
  (f_X6_isNumber σ).bind fun q1 => if q1.1 = 0 then some (0, q1.2) else (f_X6_accepts 120 (up q1.2 99 6 (q1.2 99 5))).bind fun q3 => if q3.1 = 0 then some (0, q3.2) else (f_X6_isNumber q3.2).bind fun q5 => if q5.1 = 0 then some (0, q5.2) else (f_X6_accepts 45 (up q5.2 99 7 (q5.2 99 5))).bind fun q7 => if q7.1 = 0 then (f_X6_accepts 124 q7.2).bind fun q9 => if q9.1 = 0 then f_X6_isSheetItem_j71 0 q9.2 else f_X6_isSheetItem_j71 2 q9.2 else f_X6_isSheetItem_j71 1 q7.2
set_option maxHeartbeats 4000000 in
set_option maxRecDepth 100000 in
theorem w_X6_isSheetItem_0 (X : Cx g RX6 cX6_isSheetItem 1 (some .boolean) p s m args meth c) (σ : St) {w : Int32 × St} (KR : ∀ (H : Heap) (locs : List Loc) (ls : Array Slot) (pc : Nat), Wd g s w.2 H locs → decode cX6_isSheetItem pc = .ok (.ireturn, 1) → W p l e (rmm 3 61) s m args below meth c H locs 0 0 Q (F0 m pc ls [.int (w.1)])) {H : Heap} {locs : List Loc} {ls : Array Slot} (Y : Wd g s σ H locs) (hl : lv_has ls 1 [(0, .ref (g.2.2 (99)))]) (h : f_X6_isSheetItem_0 σ = some w) : W p l e (rmm 3 61) s m args below meth c H locs 0 0 Q (F0 m 0 ls []) := by
  unfold f_X6_isSheetItem_0 at h
  refine lv_aload_n X.1 X.2.1 (dk T_X6_isSheetItem 0 rfl) rfl (lv_at hl 0 rfl) ?_
  obtain ⟨q1, hq1, h⟩ := bs h
  refine gvI (rest := []) X Y (c_X6_isNumber σ hq1) cb_X6_59 rfl hl.1 rfl rfl (Nat.le_of_ble_eq_true rfl) ⟨Nat.le_of_ble_eq_true rfl, Nat.le_of_ble_eq_true rfl⟩ (dk T_X6_isSheetItem 1 rfl) (fun H locs Y => ?_)
  refine lv_if_ne (tgt := 9) X.1 X.2.1 (dk T_X6_isSheetItem 2 rfl) rfl (fun c2 => ?_) (fun c2 => ?_)
  · replace h := ineg c2 h
    refine lv_aload_n X.1 X.2.1 (dk T_X6_isSheetItem 5 rfl) rfl (lv_at hl 0 rfl) ?_
    refine lv_aload_n X.1 X.2.1 (dk T_X6_isSheetItem 6 rfl) rfl (lv_at hl 0 rfl) ?_
    refine gg X Y fl_X6_62 rfl rfl (dk T_X6_isSheetItem 7 rfl) ?_
    refine gp X Y fp_X6_65 rfl (nar_int _) (dk T_X6_isSheetItem 8 rfl) (fun H locs Y => ?_)
    refine lv_aload_n X.1 X.2.1 (dk T_X6_isSheetItem 9 rfl) rfl (lv_at hl 0 rfl) ?_
    refine lv_bipush (v := 120) X.1 X.2.1 (dk T_X6_isSheetItem 10 rfl) bp_120 ?_
    obtain ⟨q3, hq3, h⟩ := bs h
    refine gvI (rest := []) X Y (c_X6_accepts 120 (up q1.2 99 6 (q1.2 99 5)) hq3) cb_X6_38 rfl hl.1 rfl rfl (Nat.le_of_ble_eq_true rfl) ⟨Nat.le_of_ble_eq_true rfl, Nat.le_of_ble_eq_true rfl⟩ (dk T_X6_isSheetItem 11 rfl) (fun H locs Y => ?_)
    refine lv_if_eq (tgt := 33) X.1 X.2.1 (dk T_X6_isSheetItem 12 rfl) rfl (fun c4 => ?_) (fun c4 => ?_)
    · replace h := ipos c4 h
      refine lv_iconst (v := 0) X.1 X.2.1 (dk T_X6_isSheetItem 16 rfl) ic_0 ?_
      obtain rfl := Option.some.inj h
      exact KR _ _ _ _ Y (dk T_X6_isSheetItem 17 rfl)
    · replace h := ineg c4 h
      refine lv_aload_n X.1 X.2.1 (dk T_X6_isSheetItem 13 rfl) rfl (lv_at hl 0 rfl) ?_
      obtain ⟨q5, hq5, h⟩ := bs h
      refine gvI (rest := []) X Y (c_X6_isNumber q3.2 hq5) cb_X6_59 rfl hl.1 rfl rfl (Nat.le_of_ble_eq_true rfl) ⟨Nat.le_of_ble_eq_true rfl, Nat.le_of_ble_eq_true rfl⟩ (dk T_X6_isSheetItem 14 rfl) (fun H locs Y => ?_)
      refine lv_if_ne (tgt := 35) X.1 X.2.1 (dk T_X6_isSheetItem 15 rfl) rfl (fun c6 => ?_) (fun c6 => ?_)
      · replace h := ineg c6 h
        refine lv_aload_n X.1 X.2.1 (dk T_X6_isSheetItem 18 rfl) rfl (lv_at hl 0 rfl) ?_
        refine lv_aload_n X.1 X.2.1 (dk T_X6_isSheetItem 19 rfl) rfl (lv_at hl 0 rfl) ?_
        refine gg X Y fl_X6_62 rfl rfl (dk T_X6_isSheetItem 20 rfl) ?_
        refine gp X Y fp_X6_68 rfl (nar_int _) (dk T_X6_isSheetItem 21 rfl) (fun H locs Y => ?_)
        refine lv_aload_n X.1 X.2.1 (dk T_X6_isSheetItem 22 rfl) rfl (lv_at hl 0 rfl) ?_
        refine lv_aload_n X.1 X.2.1 (dk T_X6_isSheetItem 23 rfl) rfl (lv_at hl 0 rfl) ?_
        refine lv_bipush (v := 45) X.1 X.2.1 (dk T_X6_isSheetItem 24 rfl) bp_45 ?_
        obtain ⟨q7, hq7, h⟩ := bs h
        refine gvI (rest := [.ref (g.2.2 (99))]) X Y (c_X6_accepts 45 (up q5.2 99 7 (q5.2 99 5)) hq7) cb_X6_38 rfl hl.1 rfl rfl (Nat.le_of_ble_eq_true rfl) ⟨Nat.le_of_ble_eq_true rfl, Nat.le_of_ble_eq_true rfl⟩ (dk T_X6_isSheetItem 25 rfl) (fun H locs Y => ?_)
        refine lv_if_eq (tgt := 57) X.1 X.2.1 (dk T_X6_isSheetItem 26 rfl) rfl (fun c8 => ?_) (fun c8 => ?_)
        · replace h := ipos c8 h
          refine lv_aload_n X.1 X.2.1 (dk T_X6_isSheetItem 29 rfl) rfl (lv_at hl 0 rfl) ?_
          refine lv_bipush (v := 124) X.1 X.2.1 (dk T_X6_isSheetItem 30 rfl) bp_124 ?_
          obtain ⟨q9, hq9, h⟩ := bs h
          refine gvI (rest := [.ref (g.2.2 (99))]) X Y (c_X6_accepts 124 q7.2 hq9) cb_X6_38 rfl hl.1 rfl rfl (Nat.le_of_ble_eq_true rfl) ⟨Nat.le_of_ble_eq_true rfl, Nat.le_of_ble_eq_true rfl⟩ (dk T_X6_isSheetItem 31 rfl) (fun H locs Y => ?_)
          refine lv_if_eq (tgt := 70) X.1 X.2.1 (dk T_X6_isSheetItem 32 rfl) rfl (fun c10 => ?_) (fun c10 => ?_)
          · replace h := ipos c10 h
            refine lv_iconst (v := 0) X.1 X.2.1 (dk T_X6_isSheetItem 35 rfl) ic_0 ?_
            exact w_X6_isSheetItem_j71 X 0 q9.2 KR Y (lv_sub hl [] rfl) h
          · replace h := ineg c10 h
            refine lv_iconst (v := 2) X.1 X.2.1 (dk T_X6_isSheetItem 33 rfl) ic_2 ?_
            refine lv_goto (tgt := 71) X.1 X.2.1 (dk T_X6_isSheetItem 34 rfl) rfl ?_
            exact w_X6_isSheetItem_j71 X 2 q9.2 KR Y (lv_sub hl [] rfl) h
        · replace h := ineg c8 h
          refine lv_iconst (v := 1) X.1 X.2.1 (dk T_X6_isSheetItem 27 rfl) ic_1 ?_
          refine lv_goto (tgt := 71) X.1 X.2.1 (dk T_X6_isSheetItem 28 rfl) rfl ?_
          exact w_X6_isSheetItem_j71 X 1 q7.2 KR Y (lv_sub hl [] rfl) h
      · replace h := ipos c6 h
        refine lv_iconst (v := 0) X.1 X.2.1 (dk T_X6_isSheetItem 16 rfl) ic_0 ?_
        obtain rfl := Option.some.inj h
        exact KR _ _ _ _ Y (dk T_X6_isSheetItem 17 rfl)
  · replace h := ipos c2 h
    refine lv_iconst (v := 0) X.1 X.2.1 (dk T_X6_isSheetItem 3 rfl) ic_0 ?_
    obtain rfl := Option.some.inj h
    exact KR _ _ _ _ Y (dk T_X6_isSheetItem 4 rfl)
def f_X6_isSheetItem (σ : St) : Option (Int32 × St) := bzW (f_X6_isSheetItem_0 σ)
set_option maxHeartbeats 4000000 in
set_option maxRecDepth 100000 in
theorem c_X6_isSheetItem {l : Launch} {g : Geo} (σ : St) {w : Int32 × St} (h : f_X6_isSheetItem σ = some w) : CtI l yX6_isSheetItem cX6_isSheetItem 1 (some .boolean) (rmm 3 61) g [.ref (g.2.2 (99))] σ w.1 w.2 := by
  obtain ⟨h, hz⟩ := bzW_s h
  exact enI .boolean (by decide) rfl (bz_n hz) (Nat.le_of_ble_eq_true rfl) (fun p e s m args below meth c Q X Y ls hl KR => w_X6_isSheetItem_0 X σ KR Y hl h)
def I_X6_cover : List (Nat × Instr × Nat) := [(0, .iload_n 1, 1), (1, .iconst 4, 1), (2, .if_icmp .ge 33, 3), (5, .aload_n 0, 1), (6, .getfield 83, 3), (9, .iconst 4, 1), (10, .if_icmp .ge 25, 3), (13, .aload_n 0, 1), (14, .dup, 1), (15, .getfield 86, 3), (18, .iconst 1, 1), (19, .iload_n 1, 1), (20, .aload_n 0, 1), (21, .getfield 80, 3), (24, .aload_n 0, 1), (25, .getfield 83, 3), (28, .imul, 1), (29, .iadd, 1), (30, .ishl, 1), (31, .ior, 1), (32, .putfield 86, 3), (35, .return_, 1)]
set_option maxRecDepth 100000 in
theorem T_X6_cover : ∀ q ∈ I_X6_cover, decode cX6_cover q.1 = .ok (q.2.1, q.2.2) := by decide +kernel
def f_X6_cover_0 (x1 : Int32) (σ : St) : Option (St) :=
  if 4 ≤ x1 then some σ else if 4 ≤ (σ 99 10) then some σ else some (up σ 99 11 ((σ 99 11) ||| ((1 : Int32) <<< ((x1 + ((σ 99 9) * (σ 99 10))) &&& 31))))
set_option maxHeartbeats 4000000 in
set_option maxRecDepth 100000 in
theorem w_X6_cover_0 (X : Cx g RX6 cX6_cover 2 none p s m args meth c) (x1 : Int32) (σ : St) {w : St} (KR : ∀ (H : Heap) (locs : List Loc) (ls : Array Slot) (pc : Nat), Wd g s w H locs → decode cX6_cover pc = .ok (.return_, 1) → W p l e (rmm 0 0) s m args below meth c H locs 0 0 Q (F0 m pc ls [])) {H : Heap} {locs : List Loc} {ls : Array Slot} (Y : Wd g s σ H locs) (hl : lv_has ls 2 [(0, .ref (g.2.2 (99))), (1, .int (x1))]) (h : f_X6_cover_0 x1 σ = some w) : W p l e (rmm 0 0) s m args below meth c H locs 0 0 Q (F0 m 0 ls []) := by
  unfold f_X6_cover_0 at h
  refine lv_iload_n X.1 X.2.1 (dk T_X6_cover 0 rfl) rfl (lv_at hl 1 rfl) ?_
  refine lv_iconst (v := 4) X.1 X.2.1 (dk T_X6_cover 1 rfl) ic_4 ?_
  refine lv_icmp_ge (tgt := 35) X.1 X.2.1 (dk T_X6_cover 2 rfl) rfl (fun c1 => ?_) (fun c1 => ?_)
  · replace h := ipos c1 h
    obtain rfl := Option.some.inj h
    exact KR _ _ _ _ Y (dk T_X6_cover 21 rfl)
  · replace h := ineg c1 h
    refine lv_aload_n X.1 X.2.1 (dk T_X6_cover 3 rfl) rfl (lv_at hl 0 rfl) ?_
    refine gg X Y fl_X6_83 rfl rfl (dk T_X6_cover 4 rfl) ?_
    refine lv_iconst (v := 4) X.1 X.2.1 (dk T_X6_cover 5 rfl) ic_4 ?_
    refine lv_icmp_ge (tgt := 35) X.1 X.2.1 (dk T_X6_cover 6 rfl) rfl (fun c2 => ?_) (fun c2 => ?_)
    · replace h := ipos c2 h
      obtain rfl := Option.some.inj h
      exact KR _ _ _ _ Y (dk T_X6_cover 21 rfl)
    · replace h := ineg c2 h
      refine lv_aload_n X.1 X.2.1 (dk T_X6_cover 7 rfl) rfl (lv_at hl 0 rfl) ?_
      refine lv_dup X.1 X.2.1 (dk T_X6_cover 8 rfl) rfl ?_
      refine gg X Y fl_X6_86 rfl rfl (dk T_X6_cover 9 rfl) ?_
      refine lv_iconst (v := 1) X.1 X.2.1 (dk T_X6_cover 10 rfl) ic_1 ?_
      refine lv_iload_n X.1 X.2.1 (dk T_X6_cover 11 rfl) rfl (lv_at hl 1 rfl) ?_
      refine lv_aload_n X.1 X.2.1 (dk T_X6_cover 12 rfl) rfl (lv_at hl 0 rfl) ?_
      refine gg X Y fl_X6_80 rfl rfl (dk T_X6_cover 13 rfl) ?_
      refine lv_aload_n X.1 X.2.1 (dk T_X6_cover 14 rfl) rfl (lv_at hl 0 rfl) ?_
      refine gg X Y fl_X6_83 rfl rfl (dk T_X6_cover 15 rfl) ?_
      refine lv_imul X.1 X.2.1 (dk T_X6_cover 16 rfl) ?_
      refine lv_iadd X.1 X.2.1 (dk T_X6_cover 17 rfl) ?_
      refine lv_ishl X.1 X.2.1 (dk T_X6_cover 18 rfl) ?_
      refine lv_ior X.1 X.2.1 (dk T_X6_cover 19 rfl) ?_
      refine gp X Y fp_X6_86 rfl (nar_int _) (dk T_X6_cover 20 rfl) (fun H locs Y => ?_)
      obtain rfl := Option.some.inj h
      exact KR _ _ _ _ Y (dk T_X6_cover 21 rfl)
def f_X6_cover (x1 : Int32) (σ : St) : Option (St) := f_X6_cover_0 x1 σ
set_option maxHeartbeats 4000000 in
set_option maxRecDepth 100000 in
theorem c_X6_cover {l : Launch} {g : Geo} (x1 : Int32) (σ : St) {w : St} (h : f_X6_cover x1 σ = some w) : CtV l yX6_cover cX6_cover 2 none (rmm 0 0) g [.ref (g.2.2 (99)), .int (x1)] σ w := enV (by decide) rfl (Nat.le_of_ble_eq_true rfl) (fun p e s m args below meth c Q X Y ls hl KR => w_X6_cover_0 X x1 σ KR Y hl h)
def I_X6_isRow : List (Nat × Instr × Nat) := [(0, .iconst 0, 1), (1, .istore_n 1, 1), (2, .iconst 0, 1), (3, .istore_n 2, 1), (4, .iload_n 2, 1), (5, .aload_n 0, 1), (6, .getfield 15, 3), (9, .if_icmp .ge 54, 3), (12, .aload_n 0, 1), (13, .invokevirtual 42, 3), (16, .bipush 35, 2), (18, .if_icmp .eq 12, 3), (21, .aload_n 0, 1), (22, .invokevirtual 42, 3), (25, .bipush 46, 2), (27, .if_icmp .ne 36, 3), (30, .aload_n 0, 1), (31, .invokevirtual 42, 3), (34, .bipush 35, 2), (36, .if_icmp .ne 8, 3), (39, .aload_n 0, 1), (40, .iload_n 1, 1), (41, .invokevirtual 96, 3), (44, .aload_n 0, 1), (45, .dup, 1), (46, .getfield 19, 3), (49, .iconst 1, 1), (50, .iadd, 1), (51, .putfield 19, 3), (54, .iinc 1 1, 3), (57, .iinc 2 1, 3), (60, .goto (-56), 3), (63, .aload_n 0, 1), (64, .getfield 83, 3), (67, .ifCond .ne 8, 3), (70, .aload_n 0, 1), (71, .iload_n 1, 1), (72, .putfield 80, 3), (75, .aload_n 0, 1), (76, .aload_n 0, 1), (77, .getfield 89, 3), (80, .ifCond .eq 15, 3), (83, .iload_n 1, 1), (84, .aload_n 0, 1), (85, .getfield 80, 3), (88, .if_icmp .ne 7, 3), (91, .iconst 1, 1), (92, .goto 4, 3), (95, .iconst 0, 1), (96, .putfield 89, 3), (99, .aload_n 0, 1), (100, .dup, 1), (101, .getfield 83, 3), (104, .iconst 1, 1), (105, .iadd, 1), (106, .putfield 83, 3), (109, .iload_n 1, 1), (110, .ifCond .le 7, 3), (113, .iconst 1, 1), (114, .goto 4, 3), (117, .iconst 0, 1), (118, .ireturn, 1)]
set_option maxRecDepth 100000 in
theorem T_X6_isRow : ∀ q ∈ I_X6_isRow, decode cX6_isRow q.1 = .ok (q.2.1, q.2.2) := by decide +kernel
def f_X6_isRow_j44 (x1 : Int32) (x2 : Int32) (σ : St) : Option ((Int32 × Int32 × St) ⊕ (Int32 × St)) :=
  some (.inl (x1 + 1, x2 + 1, up σ 99 2 ((σ 99 2) + 1)))
set_option maxHeartbeats 4000000 in
set_option maxRecDepth 100000 in
theorem w_X6_isRow_j44 (X : Cx g RX6 cX6_isRow 3 (some .boolean) p s m args meth c) (x1 : Int32) (x2 : Int32) (σ : St) {w : (Int32 × Int32 × St) ⊕ (Int32 × St)} (KB : ∀ (v0_ : Int32) (v1_ : Int32) (v2_ : St), w = .inl (v0_, v1_, v2_) → ∀ (H : Heap) (locs : List Loc) (ls : Array Slot), Wd g s v2_ H locs → lv_has ls 3 [(0, .ref (g.2.2 (99))), (1, .int (v0_)), (2, .int (v1_))] → W p l e (rmm 1 21) s m args below meth c H locs 0 0 Q (F0 m 4 ls [])) (KX0 : ∀ (v0_ : Int32) (v1_ : St), w = .inr (v0_, v1_) → ∀ (H : Heap) (locs : List Loc) (ls : Array Slot), Wd g s v1_ H locs → lv_has ls 3 [(0, .ref (g.2.2 (99))), (1, .int (v0_))] → W p l e (rmm 1 21) s m args below meth c H locs 0 0 Q (F0 m 63 ls [])) {H : Heap} {locs : List Loc} {ls : Array Slot} (Y : Wd g s σ H locs) (hl : lv_has ls 3 [(0, .ref (g.2.2 (99))), (1, .int (x1)), (2, .int (x2))]) (h : f_X6_isRow_j44 x1 x2 σ = some w) : W p l e (rmm 1 21) s m args below meth c H locs 0 0 Q (F0 m 44 ls []) := by
  unfold f_X6_isRow_j44 at h
  refine lv_aload_n X.1 X.2.1 (dk T_X6_isRow 23 rfl) rfl (lv_at hl 0 rfl) ?_
  refine lv_dup X.1 X.2.1 (dk T_X6_isRow 24 rfl) rfl ?_
  refine gg X Y fl_X6_19 rfl rfl (dk T_X6_isRow 25 rfl) ?_
  refine lv_iconst (v := 1) X.1 X.2.1 (dk T_X6_isRow 26 rfl) ic_1 ?_
  refine lv_iadd X.1 X.2.1 (dk T_X6_isRow 27 rfl) ?_
  refine gp X Y fp_X6_19 rfl (nar_int _) (dk T_X6_isRow 28 rfl) (fun H locs Y => ?_)
  refine lv_iinc (v := x1 + 1) (lv' := [(1, .int (x1 + 1)), (0, .ref (g.2.2 (99))), (2, .int (x2))]) X.1 X.2.1 (dk T_X6_isRow 29 rfl) hl (k := 1) rfl (icx ic_1) (Nat.le_of_ble_eq_true rfl) rfl (fun ls hl => ?_)
  refine lv_iinc (v := x2 + 1) (lv' := [(2, .int (x2 + 1)), (1, .int (x1 + 1)), (0, .ref (g.2.2 (99)))]) X.1 X.2.1 (dk T_X6_isRow 30 rfl) hl (k := 2) rfl (icx ic_1) (Nat.le_of_ble_eq_true rfl) rfl (fun ls hl => ?_)
  refine lv_goto (tgt := 4) X.1 X.2.1 (dk T_X6_isRow 31 rfl) rfl ?_
  exact KB (x1 + 1) (x2 + 1) (up σ 99 2 ((σ 99 2) + 1)) (Option.some.inj h).symm _ _ _ Y (lv_sub hl [2, 1, 0] rfl)
def f_X6_isRow_j30 (x1 : Int32) (x2 : Int32) (σ : St) : Option ((Int32 × Int32 × St) ⊕ (Int32 × St)) :=
  (f_X6_next σ).bind fun q4 => if q4 = 35 then (f_X6_cover x1 σ).bind fun q6 => f_X6_isRow_j44 x1 x2 q6 else f_X6_isRow_j44 x1 x2 σ
set_option maxHeartbeats 4000000 in
set_option maxRecDepth 100000 in
theorem w_X6_isRow_j30 (X : Cx g RX6 cX6_isRow 3 (some .boolean) p s m args meth c) (x1 : Int32) (x2 : Int32) (σ : St) {w : (Int32 × Int32 × St) ⊕ (Int32 × St)} (KB : ∀ (v0_ : Int32) (v1_ : Int32) (v2_ : St), w = .inl (v0_, v1_, v2_) → ∀ (H : Heap) (locs : List Loc) (ls : Array Slot), Wd g s v2_ H locs → lv_has ls 3 [(0, .ref (g.2.2 (99))), (1, .int (v0_)), (2, .int (v1_))] → W p l e (rmm 1 21) s m args below meth c H locs 0 0 Q (F0 m 4 ls [])) (KX0 : ∀ (v0_ : Int32) (v1_ : St), w = .inr (v0_, v1_) → ∀ (H : Heap) (locs : List Loc) (ls : Array Slot), Wd g s v1_ H locs → lv_has ls 3 [(0, .ref (g.2.2 (99))), (1, .int (v0_))] → W p l e (rmm 1 21) s m args below meth c H locs 0 0 Q (F0 m 63 ls [])) {H : Heap} {locs : List Loc} {ls : Array Slot} (Y : Wd g s σ H locs) (hl : lv_has ls 3 [(0, .ref (g.2.2 (99))), (1, .int (x1)), (2, .int (x2))]) (h : f_X6_isRow_j30 x1 x2 σ = some w) : W p l e (rmm 1 21) s m args below meth c H locs 0 0 Q (F0 m 30 ls []) := by
  unfold f_X6_isRow_j30 at h
  refine lv_aload_n X.1 X.2.1 (dk T_X6_isRow 16 rfl) rfl (lv_at hl 0 rfl) ?_
  obtain ⟨q4, hq4, h⟩ := bs h
  refine gvI (rest := []) X Y (c_X6_next σ hq4) cb_X6_42 rfl hl.1 rfl rfl (Nat.le_of_ble_eq_true rfl) ⟨Nat.le_of_ble_eq_true rfl, Nat.le_of_ble_eq_true rfl⟩ (dk T_X6_isRow 17 rfl) (fun H locs Y => ?_)
  refine lv_bipush (v := 35) X.1 X.2.1 (dk T_X6_isRow 18 rfl) bp_35 ?_
  refine lv_icmp_ne (tgt := 44) X.1 X.2.1 (dk T_X6_isRow 19 rfl) rfl (fun c5 => ?_) (fun c5 => ?_)
  · replace h := ineg c5 h
    exact w_X6_isRow_j44 X x1 x2 σ KB KX0 Y (lv_sub hl [0, 1, 2] rfl) h
  · replace h := ipos c5 h
    refine lv_aload_n X.1 X.2.1 (dk T_X6_isRow 20 rfl) rfl (lv_at hl 0 rfl) ?_
    refine lv_iload_n X.1 X.2.1 (dk T_X6_isRow 21 rfl) rfl (lv_at hl 1 rfl) ?_
    obtain ⟨q6, hq6, h⟩ := bs h
    refine gvV (rest := []) X Y (c_X6_cover x1 σ hq6) cb_X6_96 rfl hl.1 rfl rfl (Nat.le_of_ble_eq_true rfl) ⟨Nat.le_of_ble_eq_true rfl, Nat.le_of_ble_eq_true rfl⟩ (dk T_X6_isRow 22 rfl) (fun H locs Y => ?_)
    exact w_X6_isRow_j44 X x1 x2 q6 KB KX0 Y (lv_sub hl [0, 1, 2] rfl) h
def f_X6_isRow_l4 (z : Int32 × Int32 × St) : Option ((Int32 × Int32 × St) ⊕ (Int32 × St)) :=
  if (z.2.2 99 1) ≤ z.2.1 then some (.inr (z.1, z.2.2)) else (f_X6_next z.2.2).bind fun q2 => if q2 = 35 then f_X6_isRow_j30 z.1 z.2.1 z.2.2 else (f_X6_next z.2.2).bind fun q7 => if q7 = 46 then f_X6_isRow_j30 z.1 z.2.1 z.2.2 else some (.inr (z.1, z.2.2))
set_option maxHeartbeats 4000000 in
set_option maxRecDepth 100000 in
theorem w_X6_isRow_l4 (X : Cx g RX6 cX6_isRow 3 (some .boolean) p s m args meth c) (σ : St) {r : Int32 × St} (KX0 : ∀ (v0_ : Int32) (v1_ : St), r = (v0_, v1_) → ∀ (H : Heap) (locs : List Loc) (ls : Array Slot), Wd g s v1_ H locs → lv_has ls 3 [(0, .ref (g.2.2 (99))), (1, .int (v0_))] → W p l e (rmm 1 21) s m args below meth c H locs 0 0 Q (F0 m 63 ls [])) : ∀ (n : Nat) (z : Int32 × Int32 × St) {H : Heap} {locs : List Loc} {ls : Array Slot}, Wd g s z.2.2 H locs → lv_has ls 3 [(0, .ref (g.2.2 (99))), (1, .int (z.1)), (2, .int (z.2.1))] → lp (f_X6_isRow_l4) n z = some r → W p l e (rmm 1 21) s m args below meth c H locs 0 0 Q (F0 m 4 ls []) := by
  intro n
  induction n with
  | zero => intro z H locs ls Y hl h; cases h
  | succ n ih =>
    intro z H locs ls Y hl h
    obtain ⟨w, h, hw⟩ := lps h
    have KB : ∀ (v0_ : Int32) (v1_ : Int32) (v2_ : St), w = .inl (v0_, v1_, v2_) → ∀ (H : Heap) (locs : List Loc) (ls : Array Slot), Wd g s v2_ H locs → lv_has ls 3 [(0, .ref (g.2.2 (99))), (1, .int (v0_)), (2, .int (v1_))] → W p l e (rmm 1 21) s m args below meth c H locs 0 0 Q (F0 m 4 ls []) := fun v0_ v1_ v2_ e H locs ls Y hl => ih (v0_, v1_, v2_) Y hl (lpl hw e)
    have KX0 := fun (v0_ : Int32) (v1_ : St) (e : w = .inr (v0_, v1_)) => KX0 v0_ v1_ (lpr hw e)
    unfold f_X6_isRow_l4 at h
    refine lv_iload_n X.1 X.2.1 (dk T_X6_isRow 4 rfl) rfl (lv_at hl 2 rfl) ?_
    refine lv_aload_n X.1 X.2.1 (dk T_X6_isRow 5 rfl) rfl (lv_at hl 0 rfl) ?_
    refine gg X Y fl_X6_15 rfl rfl (dk T_X6_isRow 6 rfl) ?_
    refine lv_icmp_ge (tgt := 63) X.1 X.2.1 (dk T_X6_isRow 7 rfl) rfl (fun c1 => ?_) (fun c1 => ?_)
    · replace h := ipos c1 h
      exact KX0 z.1 z.2.2 (Option.some.inj h).symm _ _ _ Y (lv_sub hl [0, 1] rfl)
    · replace h := ineg c1 h
      refine lv_aload_n X.1 X.2.1 (dk T_X6_isRow 8 rfl) rfl (lv_at hl 0 rfl) ?_
      obtain ⟨q2, hq2, h⟩ := bs h
      refine gvI (rest := []) X Y (c_X6_next z.2.2 hq2) cb_X6_42 rfl hl.1 rfl rfl (Nat.le_of_ble_eq_true rfl) ⟨Nat.le_of_ble_eq_true rfl, Nat.le_of_ble_eq_true rfl⟩ (dk T_X6_isRow 9 rfl) (fun H locs Y => ?_)
      refine lv_bipush (v := 35) X.1 X.2.1 (dk T_X6_isRow 10 rfl) bp_35 ?_
      refine lv_icmp_eq (tgt := 30) X.1 X.2.1 (dk T_X6_isRow 11 rfl) rfl (fun c3 => ?_) (fun c3 => ?_)
      · replace h := ipos c3 h
        exact w_X6_isRow_j30 X z.1 z.2.1 z.2.2 KB KX0 Y (lv_sub hl [0, 1, 2] rfl) h
      · replace h := ineg c3 h
        refine lv_aload_n X.1 X.2.1 (dk T_X6_isRow 12 rfl) rfl (lv_at hl 0 rfl) ?_
        obtain ⟨q7, hq7, h⟩ := bs h
        refine gvI (rest := []) X Y (c_X6_next z.2.2 hq7) cb_X6_42 rfl hl.1 rfl rfl (Nat.le_of_ble_eq_true rfl) ⟨Nat.le_of_ble_eq_true rfl, Nat.le_of_ble_eq_true rfl⟩ (dk T_X6_isRow 13 rfl) (fun H locs Y => ?_)
        refine lv_bipush (v := 46) X.1 X.2.1 (dk T_X6_isRow 14 rfl) bp_46 ?_
        refine lv_icmp_ne (tgt := 63) X.1 X.2.1 (dk T_X6_isRow 15 rfl) rfl (fun c8 => ?_) (fun c8 => ?_)
        · replace h := ineg c8 h
          exact KX0 z.1 z.2.2 (Option.some.inj h).symm _ _ _ Y (lv_sub hl [0, 1] rfl)
        · replace h := ipos c8 h
          exact w_X6_isRow_j30 X z.1 z.2.1 z.2.2 KB KX0 Y (lv_sub hl [0, 1, 2] rfl) h
def f_X6_isRow_j96 (x1 : Int32) (s0 : Int32) (σ : St) : Option (Int32 × St) :=
  chk (okz s0) (if x1 ≤ 0 then some (0, up (up σ 99 12 s0) 99 10 ((up σ 99 12 s0 99 10) + 1)) else some (1, up (up σ 99 12 s0) 99 10 ((up σ 99 12 s0 99 10) + 1)))
set_option maxHeartbeats 4000000 in
set_option maxRecDepth 100000 in
theorem w_X6_isRow_j96 (X : Cx g RX6 cX6_isRow 3 (some .boolean) p s m args meth c) (x1 : Int32) (s0 : Int32) (σ : St) {w : Int32 × St} (KR : ∀ (H : Heap) (locs : List Loc) (ls : Array Slot) (pc : Nat), Wd g s w.2 H locs → decode cX6_isRow pc = .ok (.ireturn, 1) → W p l e (rmm 1 21) s m args below meth c H locs 0 0 Q (F0 m pc ls [.int (w.1)])) {H : Heap} {locs : List Loc} {ls : Array Slot} (Y : Wd g s σ H locs) (hl : lv_has ls 3 [(0, .ref (g.2.2 (99))), (1, .int (x1))]) (h : f_X6_isRow_j96 x1 s0 σ = some w) : W p l e (rmm 1 21) s m args below meth c H locs 0 0 Q (F0 m 96 ls [.int (s0), .ref (g.2.2 (99))]) := by
  unfold f_X6_isRow_j96 at h
  obtain ⟨g12, h⟩ := gd h
  refine gp X Y fp_X6_89 rfl (nar_z g12) (dk T_X6_isRow 49 rfl) (fun H locs Y => ?_)
  refine lv_aload_n X.1 X.2.1 (dk T_X6_isRow 50 rfl) rfl (lv_at hl 0 rfl) ?_
  refine lv_dup X.1 X.2.1 (dk T_X6_isRow 51 rfl) rfl ?_
  refine gg X Y fl_X6_83 rfl rfl (dk T_X6_isRow 52 rfl) ?_
  refine lv_iconst (v := 1) X.1 X.2.1 (dk T_X6_isRow 53 rfl) ic_1 ?_
  refine lv_iadd X.1 X.2.1 (dk T_X6_isRow 54 rfl) ?_
  refine gp X Y fp_X6_83 rfl (nar_int _) (dk T_X6_isRow 55 rfl) (fun H locs Y => ?_)
  refine lv_iload_n X.1 X.2.1 (dk T_X6_isRow 56 rfl) rfl (lv_at hl 1 rfl) ?_
  refine lv_if_le (tgt := 117) X.1 X.2.1 (dk T_X6_isRow 57 rfl) rfl (fun c13 => ?_) (fun c13 => ?_)
  · replace h := ipos c13 h
    refine lv_iconst (v := 0) X.1 X.2.1 (dk T_X6_isRow 60 rfl) ic_0 ?_
    obtain rfl := Option.some.inj h
    exact KR _ _ _ _ Y (dk T_X6_isRow 61 rfl)
  · replace h := ineg c13 h
    refine lv_iconst (v := 1) X.1 X.2.1 (dk T_X6_isRow 58 rfl) ic_1 ?_
    refine lv_goto (tgt := 118) X.1 X.2.1 (dk T_X6_isRow 59 rfl) rfl ?_
    obtain rfl := Option.some.inj h
    exact KR _ _ _ _ Y (dk T_X6_isRow 61 rfl)
def f_X6_isRow_j95 (x1 : Int32) (σ : St) : Option (Int32 × St) :=
  f_X6_isRow_j96 x1 0 σ
set_option maxHeartbeats 4000000 in
set_option maxRecDepth 100000 in
theorem w_X6_isRow_j95 (X : Cx g RX6 cX6_isRow 3 (some .boolean) p s m args meth c) (x1 : Int32) (σ : St) {w : Int32 × St} (KR : ∀ (H : Heap) (locs : List Loc) (ls : Array Slot) (pc : Nat), Wd g s w.2 H locs → decode cX6_isRow pc = .ok (.ireturn, 1) → W p l e (rmm 1 21) s m args below meth c H locs 0 0 Q (F0 m pc ls [.int (w.1)])) {H : Heap} {locs : List Loc} {ls : Array Slot} (Y : Wd g s σ H locs) (hl : lv_has ls 3 [(0, .ref (g.2.2 (99))), (1, .int (x1))]) (h : f_X6_isRow_j95 x1 σ = some w) : W p l e (rmm 1 21) s m args below meth c H locs 0 0 Q (F0 m 95 ls [.ref (g.2.2 (99))]) := by
  unfold f_X6_isRow_j95 at h
  refine lv_iconst (v := 0) X.1 X.2.1 (dk T_X6_isRow 48 rfl) ic_0 ?_
  exact w_X6_isRow_j96 X x1 0 σ KR Y (lv_sub hl [0, 1] rfl) h
def f_X6_isRow_j75 (x1 : Int32) (σ : St) : Option (Int32 × St) :=
  if (σ 99 12) = 0 then f_X6_isRow_j95 x1 σ else if x1 = (σ 99 9) then f_X6_isRow_j96 x1 1 σ else f_X6_isRow_j95 x1 σ
set_option maxHeartbeats 4000000 in
set_option maxRecDepth 100000 in
theorem w_X6_isRow_j75 (X : Cx g RX6 cX6_isRow 3 (some .boolean) p s m args meth c) (x1 : Int32) (σ : St) {w : Int32 × St} (KR : ∀ (H : Heap) (locs : List Loc) (ls : Array Slot) (pc : Nat), Wd g s w.2 H locs → decode cX6_isRow pc = .ok (.ireturn, 1) → W p l e (rmm 1 21) s m args below meth c H locs 0 0 Q (F0 m pc ls [.int (w.1)])) {H : Heap} {locs : List Loc} {ls : Array Slot} (Y : Wd g s σ H locs) (hl : lv_has ls 3 [(0, .ref (g.2.2 (99))), (1, .int (x1))]) (h : f_X6_isRow_j75 x1 σ = some w) : W p l e (rmm 1 21) s m args below meth c H locs 0 0 Q (F0 m 75 ls []) := by
  unfold f_X6_isRow_j75 at h
  refine lv_aload_n X.1 X.2.1 (dk T_X6_isRow 38 rfl) rfl (lv_at hl 0 rfl) ?_
  refine lv_aload_n X.1 X.2.1 (dk T_X6_isRow 39 rfl) rfl (lv_at hl 0 rfl) ?_
  refine gg X Y fl_X6_89 rfl rfl (dk T_X6_isRow 40 rfl) ?_
  refine lv_if_eq (tgt := 95) X.1 X.2.1 (dk T_X6_isRow 41 rfl) rfl (fun c11 => ?_) (fun c11 => ?_)
  · replace h := ipos c11 h
    exact w_X6_isRow_j95 X x1 σ KR Y (lv_sub hl [0, 1] rfl) h
  · replace h := ineg c11 h
    refine lv_iload_n X.1 X.2.1 (dk T_X6_isRow 42 rfl) rfl (lv_at hl 1 rfl) ?_
    refine lv_aload_n X.1 X.2.1 (dk T_X6_isRow 43 rfl) rfl (lv_at hl 0 rfl) ?_
    refine gg X Y fl_X6_80 rfl rfl (dk T_X6_isRow 44 rfl) ?_
    refine lv_icmp_ne (tgt := 95) X.1 X.2.1 (dk T_X6_isRow 45 rfl) rfl (fun c14 => ?_) (fun c14 => ?_)
    · replace h := ineg c14 h
      exact w_X6_isRow_j95 X x1 σ KR Y (lv_sub hl [0, 1] rfl) h
    · replace h := ipos c14 h
      refine lv_iconst (v := 1) X.1 X.2.1 (dk T_X6_isRow 46 rfl) ic_1 ?_
      refine lv_goto (tgt := 96) X.1 X.2.1 (dk T_X6_isRow 47 rfl) rfl ?_
      exact w_X6_isRow_j96 X x1 1 σ KR Y (lv_sub hl [0, 1] rfl) h
def f_X6_isRow_j63 (x1 : Int32) (σ : St) : Option (Int32 × St) :=
  if (σ 99 10) = 0 then f_X6_isRow_j75 x1 (up σ 99 9 x1) else f_X6_isRow_j75 x1 σ
set_option maxHeartbeats 4000000 in
set_option maxRecDepth 100000 in
theorem w_X6_isRow_j63 (X : Cx g RX6 cX6_isRow 3 (some .boolean) p s m args meth c) (x1 : Int32) (σ : St) {w : Int32 × St} (KR : ∀ (H : Heap) (locs : List Loc) (ls : Array Slot) (pc : Nat), Wd g s w.2 H locs → decode cX6_isRow pc = .ok (.ireturn, 1) → W p l e (rmm 1 21) s m args below meth c H locs 0 0 Q (F0 m pc ls [.int (w.1)])) {H : Heap} {locs : List Loc} {ls : Array Slot} (Y : Wd g s σ H locs) (hl : lv_has ls 3 [(0, .ref (g.2.2 (99))), (1, .int (x1))]) (h : f_X6_isRow_j63 x1 σ = some w) : W p l e (rmm 1 21) s m args below meth c H locs 0 0 Q (F0 m 63 ls []) := by
  unfold f_X6_isRow_j63 at h
  refine lv_aload_n X.1 X.2.1 (dk T_X6_isRow 32 rfl) rfl (lv_at hl 0 rfl) ?_
  refine gg X Y fl_X6_83 rfl rfl (dk T_X6_isRow 33 rfl) ?_
  refine lv_if_ne (tgt := 75) X.1 X.2.1 (dk T_X6_isRow 34 rfl) rfl (fun c10 => ?_) (fun c10 => ?_)
  · replace h := ineg c10 h
    exact w_X6_isRow_j75 X x1 σ KR Y (lv_sub hl [0, 1] rfl) h
  · replace h := ipos c10 h
    refine lv_aload_n X.1 X.2.1 (dk T_X6_isRow 35 rfl) rfl (lv_at hl 0 rfl) ?_
    refine lv_iload_n X.1 X.2.1 (dk T_X6_isRow 36 rfl) rfl (lv_at hl 1 rfl) ?_
    refine gp X Y fp_X6_80 rfl (nar_int _) (dk T_X6_isRow 37 rfl) (fun H locs Y => ?_)
    exact w_X6_isRow_j75 X x1 (up σ 99 9 x1) KR Y (lv_sub hl [0, 1] rfl) h
def f_X6_isRow_0 (σ : St) : Option (Int32 × St) :=
  (lp (f_X6_isRow_l4) FU (0, 0, σ)).bind fun q9 => f_X6_isRow_j63 q9.1 q9.2
set_option maxHeartbeats 4000000 in
set_option maxRecDepth 100000 in
theorem w_X6_isRow_0 (X : Cx g RX6 cX6_isRow 3 (some .boolean) p s m args meth c) (σ : St) {w : Int32 × St} (KR : ∀ (H : Heap) (locs : List Loc) (ls : Array Slot) (pc : Nat), Wd g s w.2 H locs → decode cX6_isRow pc = .ok (.ireturn, 1) → W p l e (rmm 1 21) s m args below meth c H locs 0 0 Q (F0 m pc ls [.int (w.1)])) {H : Heap} {locs : List Loc} {ls : Array Slot} (Y : Wd g s σ H locs) (hl : lv_has ls 3 [(0, .ref (g.2.2 (99)))]) (h : f_X6_isRow_0 σ = some w) : W p l e (rmm 1 21) s m args below meth c H locs 0 0 Q (F0 m 0 ls []) := by
  unfold f_X6_isRow_0 at h
  refine lv_iconst (v := 0) X.1 X.2.1 (dk T_X6_isRow 0 rfl) ic_0 ?_
  refine lv_istore_n (lv' := [(1, .int (0)), (0, .ref (g.2.2 (99)))]) X.1 X.2.1 (dk T_X6_isRow 1 rfl) rfl hl (Nat.le_of_ble_eq_true rfl) rfl (fun ls hl => ?_)
  refine lv_iconst (v := 0) X.1 X.2.1 (dk T_X6_isRow 2 rfl) ic_0 ?_
  refine lv_istore_n (lv' := [(2, .int (0)), (1, .int (0)), (0, .ref (g.2.2 (99)))]) X.1 X.2.1 (dk T_X6_isRow 3 rfl) rfl hl (Nat.le_of_ble_eq_true rfl) rfl (fun ls hl => ?_)
  obtain ⟨q9, hq9, h⟩ := bs h
  refine w_X6_isRow_l4 X σ (fun v0_ v1_ e H locs ls Y hl => ?_) FU (0, 0, σ) Y (lv_sub hl [2, 1, 0] rfl) hq9
  · obtain ⟨rfl, rfl⟩ : v0_ = q9.1 ∧ v1_ = q9.2 := ⟨by rw [e], by rw [e]⟩
    exact w_X6_isRow_j63 X q9.1 q9.2 KR Y (lv_sub hl [0, 1] rfl) h
def f_X6_isRow (σ : St) : Option (Int32 × St) := bzW (f_X6_isRow_0 σ)
set_option maxHeartbeats 4000000 in
set_option maxRecDepth 100000 in
theorem c_X6_isRow {l : Launch} {g : Geo} (σ : St) {w : Int32 × St} (h : f_X6_isRow σ = some w) : CtI l yX6_isRow cX6_isRow 3 (some .boolean) (rmm 1 21) g [.ref (g.2.2 (99))] σ w.1 w.2 := by
  obtain ⟨h, hz⟩ := bzW_s h
  exact enI .boolean (by decide) rfl (bz_n hz) (Nat.le_of_ble_eq_true rfl) (fun p e s m args below meth c Q X Y ls hl KR => w_X6_isRow_0 X σ KR Y hl h)
def I_X6_isRows : List (Nat × Instr × Nat) := [(0, .aload_n 0, 1), (1, .iconst 0, 1), (2, .putfield 80, 3), (5, .aload_n 0, 1), (6, .iconst 0, 1), (7, .putfield 83, 3), (10, .aload_n 0, 1), (11, .iconst 0, 1), (12, .putfield 86, 3), (15, .aload_n 0, 1), (16, .iconst 1, 1), (17, .putfield 89, 3), (20, .iconst 0, 1), (21, .istore_n 1, 1), (22, .iload_n 1, 1), (23, .aload_n 0, 1), (24, .getfield 15, 3), (27, .if_icmp .gt 29, 3), (30, .aload_n 0, 1), (31, .invokevirtual 93, 3), (34, .ifCond .ne 5, 3), (37, .iconst 0, 1), (38, .ireturn, 1), (39, .aload_n 0, 1), (40, .bipush 47, 2), (42, .invokevirtual 38, 3), (45, .ifCond .ne 5, 3), (48, .iconst 1, 1), (49, .ireturn, 1), (50, .iinc 1 1, 3), (53, .goto (-31), 3), (56, .iconst 0, 1), (57, .ireturn, 1)]
set_option maxRecDepth 100000 in
theorem T_X6_isRows : ∀ q ∈ I_X6_isRows, decode cX6_isRows q.1 = .ok (q.2.1, q.2.2) := by decide +kernel
def f_X6_isRows_l22 (z : Int32 × St) : Option ((Int32 × St) ⊕ ((St) ⊕ ((St) ⊕ (St)))) :=
  if (z.2 99 1) < z.1 then some (.inr (.inl z.2)) else (f_X6_isRow z.2).bind fun q2 => if q2.1 = 0 then some (.inr (.inr (.inl q2.2))) else (f_X6_accepts 47 q2.2).bind fun q4 => if q4.1 = 0 then some (.inr (.inr (.inr q4.2))) else some (.inl (z.1 + 1, q4.2))
set_option maxHeartbeats 4000000 in
set_option maxRecDepth 100000 in
theorem w_X6_isRows_l22 (X : Cx g RX6 cX6_isRows 2 (some .boolean) p s m args meth c) (σ : St) {r : (St) ⊕ ((St) ⊕ (St))} (KX0 : ∀ (v : St), r = (.inl v) → ∀ (H : Heap) (locs : List Loc) (ls : Array Slot), Wd g s v H locs → lv_has ls 2 [] → W p l e (rmm 2 43) s m args below meth c H locs 0 0 Q (F0 m 56 ls [])) (KX1 : ∀ (v : St), r = (.inr (.inl v)) → ∀ (H : Heap) (locs : List Loc) (ls : Array Slot), Wd g s v H locs → lv_has ls 2 [] → W p l e (rmm 2 43) s m args below meth c H locs 0 0 Q (F0 m 37 ls [])) (KX2 : ∀ (v : St), r = (.inr (.inr v)) → ∀ (H : Heap) (locs : List Loc) (ls : Array Slot), Wd g s v H locs → lv_has ls 2 [] → W p l e (rmm 2 43) s m args below meth c H locs 0 0 Q (F0 m 48 ls [])) : ∀ (n : Nat) (z : Int32 × St) {H : Heap} {locs : List Loc} {ls : Array Slot}, Wd g s z.2 H locs → lv_has ls 2 [(0, .ref (g.2.2 (99))), (1, .int (z.1))] → lp (f_X6_isRows_l22) n z = some r → W p l e (rmm 2 43) s m args below meth c H locs 0 0 Q (F0 m 22 ls []) := by
  intro n
  induction n with
  | zero => intro z H locs ls Y hl h; cases h
  | succ n ih =>
    intro z H locs ls Y hl h
    obtain ⟨w, h, hw⟩ := lps h
    have KB : ∀ (v0_ : Int32) (v1_ : St), w = .inl (v0_, v1_) → ∀ (H : Heap) (locs : List Loc) (ls : Array Slot), Wd g s v1_ H locs → lv_has ls 2 [(0, .ref (g.2.2 (99))), (1, .int (v0_))] → W p l e (rmm 2 43) s m args below meth c H locs 0 0 Q (F0 m 22 ls []) := fun v0_ v1_ e H locs ls Y hl => ih (v0_, v1_) Y hl (lpl hw e)
    have KX0 := fun (v : St) (e : w = .inr (.inl v)) => KX0 v (lpr hw e)
    have KX1 := fun (v : St) (e : w = .inr (.inr (.inl v))) => KX1 v (lpr hw e)
    have KX2 := fun (v : St) (e : w = .inr (.inr (.inr v))) => KX2 v (lpr hw e)
    unfold f_X6_isRows_l22 at h
    refine lv_iload_n X.1 X.2.1 (dk T_X6_isRows 14 rfl) rfl (lv_at hl 1 rfl) ?_
    refine lv_aload_n X.1 X.2.1 (dk T_X6_isRows 15 rfl) rfl (lv_at hl 0 rfl) ?_
    refine gg X Y fl_X6_15 rfl rfl (dk T_X6_isRows 16 rfl) ?_
    refine lv_icmp_gt (tgt := 56) X.1 X.2.1 (dk T_X6_isRows 17 rfl) rfl (fun c1 => ?_) (fun c1 => ?_)
    · replace h := ipos c1 h
      exact KX0 z.2 (Option.some.inj h).symm _ _ _ Y (lv_sub hl [] rfl)
    · replace h := ineg c1 h
      refine lv_aload_n X.1 X.2.1 (dk T_X6_isRows 18 rfl) rfl (lv_at hl 0 rfl) ?_
      obtain ⟨q2, hq2, h⟩ := bs h
      refine gvI (rest := []) X Y (c_X6_isRow z.2 hq2) cb_X6_93 rfl hl.1 rfl rfl (Nat.le_of_ble_eq_true rfl) ⟨Nat.le_of_ble_eq_true rfl, Nat.le_of_ble_eq_true rfl⟩ (dk T_X6_isRows 19 rfl) (fun H locs Y => ?_)
      refine lv_if_ne (tgt := 39) X.1 X.2.1 (dk T_X6_isRows 20 rfl) rfl (fun c3 => ?_) (fun c3 => ?_)
      · replace h := ineg c3 h
        refine lv_aload_n X.1 X.2.1 (dk T_X6_isRows 23 rfl) rfl (lv_at hl 0 rfl) ?_
        refine lv_bipush (v := 47) X.1 X.2.1 (dk T_X6_isRows 24 rfl) bp_47 ?_
        obtain ⟨q4, hq4, h⟩ := bs h
        refine gvI (rest := []) X Y (c_X6_accepts 47 q2.2 hq4) cb_X6_38 rfl hl.1 rfl rfl (Nat.le_of_ble_eq_true rfl) ⟨Nat.le_of_ble_eq_true rfl, Nat.le_of_ble_eq_true rfl⟩ (dk T_X6_isRows 25 rfl) (fun H locs Y => ?_)
        refine lv_if_ne (tgt := 50) X.1 X.2.1 (dk T_X6_isRows 26 rfl) rfl (fun c5 => ?_) (fun c5 => ?_)
        · replace h := ineg c5 h
          refine lv_iinc (v := z.1 + 1) (lv' := [(1, .int (z.1 + 1)), (0, .ref (g.2.2 (99)))]) X.1 X.2.1 (dk T_X6_isRows 29 rfl) hl (k := 1) rfl (icx ic_1) (Nat.le_of_ble_eq_true rfl) rfl (fun ls hl => ?_)
          refine lv_goto (tgt := 22) X.1 X.2.1 (dk T_X6_isRows 30 rfl) rfl ?_
          exact KB (z.1 + 1) q4.2 (Option.some.inj h).symm _ _ _ Y (lv_sub hl [1, 0] rfl)
        · replace h := ipos c5 h
          exact KX2 q4.2 (Option.some.inj h).symm _ _ _ Y (lv_sub hl [] rfl)
      · replace h := ipos c3 h
        exact KX1 q2.2 (Option.some.inj h).symm _ _ _ Y (lv_sub hl [] rfl)
def f_X6_isRows_0 (σ : St) : Option (Int32 × St) :=
  (lp (f_X6_isRows_l22) FU (0, up (up (up (up σ 99 9 0) 99 10 0) 99 11 0) 99 12 1)).bind fun q6 => Sum.elim (fun v7 => some (0, v7)) (Sum.elim (fun v8 => some (0, v8)) (fun v9 => some (1, v9))) q6
set_option maxHeartbeats 4000000 in
set_option maxRecDepth 100000 in
theorem w_X6_isRows_0 (X : Cx g RX6 cX6_isRows 2 (some .boolean) p s m args meth c) (σ : St) {w : Int32 × St} (KR : ∀ (H : Heap) (locs : List Loc) (ls : Array Slot) (pc : Nat), Wd g s w.2 H locs → decode cX6_isRows pc = .ok (.ireturn, 1) → W p l e (rmm 2 43) s m args below meth c H locs 0 0 Q (F0 m pc ls [.int (w.1)])) {H : Heap} {locs : List Loc} {ls : Array Slot} (Y : Wd g s σ H locs) (hl : lv_has ls 2 [(0, .ref (g.2.2 (99)))]) (h : f_X6_isRows_0 σ = some w) : W p l e (rmm 2 43) s m args below meth c H locs 0 0 Q (F0 m 0 ls []) := by
  unfold f_X6_isRows_0 at h
  refine lv_aload_n X.1 X.2.1 (dk T_X6_isRows 0 rfl) rfl (lv_at hl 0 rfl) ?_
  refine lv_iconst (v := 0) X.1 X.2.1 (dk T_X6_isRows 1 rfl) ic_0 ?_
  refine gp X Y fp_X6_80 rfl (nar_int _) (dk T_X6_isRows 2 rfl) (fun H locs Y => ?_)
  refine lv_aload_n X.1 X.2.1 (dk T_X6_isRows 3 rfl) rfl (lv_at hl 0 rfl) ?_
  refine lv_iconst (v := 0) X.1 X.2.1 (dk T_X6_isRows 4 rfl) ic_0 ?_
  refine gp X Y fp_X6_83 rfl (nar_int _) (dk T_X6_isRows 5 rfl) (fun H locs Y => ?_)
  refine lv_aload_n X.1 X.2.1 (dk T_X6_isRows 6 rfl) rfl (lv_at hl 0 rfl) ?_
  refine lv_iconst (v := 0) X.1 X.2.1 (dk T_X6_isRows 7 rfl) ic_0 ?_
  refine gp X Y fp_X6_86 rfl (nar_int _) (dk T_X6_isRows 8 rfl) (fun H locs Y => ?_)
  refine lv_aload_n X.1 X.2.1 (dk T_X6_isRows 9 rfl) rfl (lv_at hl 0 rfl) ?_
  refine lv_iconst (v := 1) X.1 X.2.1 (dk T_X6_isRows 10 rfl) ic_1 ?_
  refine gp X Y fp_X6_89 rfl nar_b1 (dk T_X6_isRows 11 rfl) (fun H locs Y => ?_)
  refine lv_iconst (v := 0) X.1 X.2.1 (dk T_X6_isRows 12 rfl) ic_0 ?_
  refine lv_istore_n (lv' := [(1, .int (0)), (0, .ref (g.2.2 (99)))]) X.1 X.2.1 (dk T_X6_isRows 13 rfl) rfl hl (Nat.le_of_ble_eq_true rfl) rfl (fun ls hl => ?_)
  obtain ⟨q6, hq6, h⟩ := bs h
  refine w_X6_isRows_l22 X σ (fun v e H locs ls Y hl => ?_) (fun v e H locs ls Y hl => ?_) (fun v e H locs ls Y hl => ?_) FU (0, up (up (up (up σ 99 9 0) 99 10 0) 99 11 0) 99 12 1) Y (lv_sub hl [1, 0] rfl) hq6
  · obtain rfl := e
    replace h := sel h
    refine lv_iconst (v := 0) X.1 X.2.1 (dk T_X6_isRows 31 rfl) ic_0 ?_
    obtain rfl := Option.some.inj h
    exact KR _ _ _ _ Y (dk T_X6_isRows 32 rfl)
  · obtain rfl := e
    replace h := ser h
    replace h := sel h
    refine lv_iconst (v := 0) X.1 X.2.1 (dk T_X6_isRows 21 rfl) ic_0 ?_
    obtain rfl := Option.some.inj h
    exact KR _ _ _ _ Y (dk T_X6_isRows 22 rfl)
  · obtain rfl := e
    replace h := ser h
    replace h := ser h
    refine lv_iconst (v := 1) X.1 X.2.1 (dk T_X6_isRows 27 rfl) ic_1 ?_
    obtain rfl := Option.some.inj h
    exact KR _ _ _ _ Y (dk T_X6_isRows 28 rfl)
def f_X6_isRows (σ : St) : Option (Int32 × St) := bzW (f_X6_isRows_0 σ)
set_option maxHeartbeats 4000000 in
set_option maxRecDepth 100000 in
theorem c_X6_isRows {l : Launch} {g : Geo} (σ : St) {w : Int32 × St} (h : f_X6_isRows σ = some w) : CtI l yX6_isRows cX6_isRows 2 (some .boolean) (rmm 2 43) g [.ref (g.2.2 (99))] σ w.1 w.2 := by
  obtain ⟨h, hz⟩ := bzW_s h
  exact enI .boolean (by decide) rfl (bz_n hz) (Nat.le_of_ble_eq_true rfl) (fun p e s m args below meth c Q X Y ls hl KR => w_X6_isRows_0 X σ KR Y hl h)
def I_X6_isShapeItem : List (Nat × Instr × Nat) := [(0, .aload_n 0, 1), (1, .invokevirtual 74, 3), (4, .ifCond .eq 19, 3), (7, .aload_n 0, 1), (8, .bipush 58, 2), (10, .invokevirtual 38, 3), (13, .ifCond .eq 10, 3), (16, .aload_n 0, 1), (17, .invokevirtual 77, 3), (20, .ifCond .ne 5, 3), (23, .iconst 0, 1), (24, .ireturn, 1), (25, .aload_n 0, 1), (26, .aload_n 0, 1), (27, .getfield 62, 3), (30, .putfield 65, 3), (33, .aload_n 0, 1), (34, .bipush 42, 2), (36, .invokevirtual 38, 3), (39, .ifCond .eq 10, 3), (42, .aload_n 0, 1), (43, .invokevirtual 59, 3), (46, .ifCond .ne 5, 3), (49, .iconst 0, 1), (50, .ireturn, 1), (51, .aload_n 0, 1), (52, .aload_n 0, 1), (53, .getfield 62, 3), (56, .putfield 68, 3), (59, .iconst 1, 1), (60, .ireturn, 1)]
set_option maxRecDepth 100000 in
theorem T_X6_isShapeItem : ∀ q ∈ I_X6_isShapeItem, decode cX6_isShapeItem q.1 = .ok (q.2.1, q.2.2) := by decide +kernel
def f_X6_isShapeItem_0 (σ : St) : Option (Int32 × St) :=
  (f_X6_isRows σ).bind fun q1 => if q1.1 = 0 then some (0, q1.2) else (f_X6_accepts 58 q1.2).bind fun q3 => if q3.1 = 0 then some (0, q3.2) else (f_X6_isDigit q3.2).bind fun q5 => if q5.1 = 0 then some (0, q5.2) else (f_X6_accepts 42 (up q5.2 99 6 (q5.2 99 5))).bind fun q7 => if q7.1 = 0 then some (0, q7.2) else (f_X6_isNumber q7.2).bind fun q9 => if q9.1 = 0 then some (0, q9.2) else some (1, up q9.2 99 7 (q9.2 99 5))
set_option maxHeartbeats 4000000 in
set_option maxRecDepth 100000 in
theorem w_X6_isShapeItem_0 (X : Cx g RX6 cX6_isShapeItem 1 (some .boolean) p s m args meth c) (σ : St) {w : Int32 × St} (KR : ∀ (H : Heap) (locs : List Loc) (ls : Array Slot) (pc : Nat), Wd g s w.2 H locs → decode cX6_isShapeItem pc = .ok (.ireturn, 1) → W p l e (rmm 3 64) s m args below meth c H locs 0 0 Q (F0 m pc ls [.int (w.1)])) {H : Heap} {locs : List Loc} {ls : Array Slot} (Y : Wd g s σ H locs) (hl : lv_has ls 1 [(0, .ref (g.2.2 (99)))]) (h : f_X6_isShapeItem_0 σ = some w) : W p l e (rmm 3 64) s m args below meth c H locs 0 0 Q (F0 m 0 ls []) := by
  unfold f_X6_isShapeItem_0 at h
  refine lv_aload_n X.1 X.2.1 (dk T_X6_isShapeItem 0 rfl) rfl (lv_at hl 0 rfl) ?_
  obtain ⟨q1, hq1, h⟩ := bs h
  refine gvI (rest := []) X Y (c_X6_isRows σ hq1) cb_X6_74 rfl hl.1 rfl rfl (Nat.le_of_ble_eq_true rfl) ⟨Nat.le_of_ble_eq_true rfl, Nat.le_of_ble_eq_true rfl⟩ (dk T_X6_isShapeItem 1 rfl) (fun H locs Y => ?_)
  refine lv_if_eq (tgt := 23) X.1 X.2.1 (dk T_X6_isShapeItem 2 rfl) rfl (fun c2 => ?_) (fun c2 => ?_)
  · replace h := ipos c2 h
    refine lv_iconst (v := 0) X.1 X.2.1 (dk T_X6_isShapeItem 10 rfl) ic_0 ?_
    obtain rfl := Option.some.inj h
    exact KR _ _ _ _ Y (dk T_X6_isShapeItem 11 rfl)
  · replace h := ineg c2 h
    refine lv_aload_n X.1 X.2.1 (dk T_X6_isShapeItem 3 rfl) rfl (lv_at hl 0 rfl) ?_
    refine lv_bipush (v := 58) X.1 X.2.1 (dk T_X6_isShapeItem 4 rfl) bp_58 ?_
    obtain ⟨q3, hq3, h⟩ := bs h
    refine gvI (rest := []) X Y (c_X6_accepts 58 q1.2 hq3) cb_X6_38 rfl hl.1 rfl rfl (Nat.le_of_ble_eq_true rfl) ⟨Nat.le_of_ble_eq_true rfl, Nat.le_of_ble_eq_true rfl⟩ (dk T_X6_isShapeItem 5 rfl) (fun H locs Y => ?_)
    refine lv_if_eq (tgt := 23) X.1 X.2.1 (dk T_X6_isShapeItem 6 rfl) rfl (fun c4 => ?_) (fun c4 => ?_)
    · replace h := ipos c4 h
      refine lv_iconst (v := 0) X.1 X.2.1 (dk T_X6_isShapeItem 10 rfl) ic_0 ?_
      obtain rfl := Option.some.inj h
      exact KR _ _ _ _ Y (dk T_X6_isShapeItem 11 rfl)
    · replace h := ineg c4 h
      refine lv_aload_n X.1 X.2.1 (dk T_X6_isShapeItem 7 rfl) rfl (lv_at hl 0 rfl) ?_
      obtain ⟨q5, hq5, h⟩ := bs h
      refine gvI (rest := []) X Y (c_X6_isDigit q3.2 hq5) cb_X6_77 rfl hl.1 rfl rfl (Nat.le_of_ble_eq_true rfl) ⟨Nat.le_of_ble_eq_true rfl, Nat.le_of_ble_eq_true rfl⟩ (dk T_X6_isShapeItem 8 rfl) (fun H locs Y => ?_)
      refine lv_if_ne (tgt := 25) X.1 X.2.1 (dk T_X6_isShapeItem 9 rfl) rfl (fun c6 => ?_) (fun c6 => ?_)
      · replace h := ineg c6 h
        refine lv_aload_n X.1 X.2.1 (dk T_X6_isShapeItem 12 rfl) rfl (lv_at hl 0 rfl) ?_
        refine lv_aload_n X.1 X.2.1 (dk T_X6_isShapeItem 13 rfl) rfl (lv_at hl 0 rfl) ?_
        refine gg X Y fl_X6_62 rfl rfl (dk T_X6_isShapeItem 14 rfl) ?_
        refine gp X Y fp_X6_65 rfl (nar_int _) (dk T_X6_isShapeItem 15 rfl) (fun H locs Y => ?_)
        refine lv_aload_n X.1 X.2.1 (dk T_X6_isShapeItem 16 rfl) rfl (lv_at hl 0 rfl) ?_
        refine lv_bipush (v := 42) X.1 X.2.1 (dk T_X6_isShapeItem 17 rfl) bp_42 ?_
        obtain ⟨q7, hq7, h⟩ := bs h
        refine gvI (rest := []) X Y (c_X6_accepts 42 (up q5.2 99 6 (q5.2 99 5)) hq7) cb_X6_38 rfl hl.1 rfl rfl (Nat.le_of_ble_eq_true rfl) ⟨Nat.le_of_ble_eq_true rfl, Nat.le_of_ble_eq_true rfl⟩ (dk T_X6_isShapeItem 18 rfl) (fun H locs Y => ?_)
        refine lv_if_eq (tgt := 49) X.1 X.2.1 (dk T_X6_isShapeItem 19 rfl) rfl (fun c8 => ?_) (fun c8 => ?_)
        · replace h := ipos c8 h
          refine lv_iconst (v := 0) X.1 X.2.1 (dk T_X6_isShapeItem 23 rfl) ic_0 ?_
          obtain rfl := Option.some.inj h
          exact KR _ _ _ _ Y (dk T_X6_isShapeItem 24 rfl)
        · replace h := ineg c8 h
          refine lv_aload_n X.1 X.2.1 (dk T_X6_isShapeItem 20 rfl) rfl (lv_at hl 0 rfl) ?_
          obtain ⟨q9, hq9, h⟩ := bs h
          refine gvI (rest := []) X Y (c_X6_isNumber q7.2 hq9) cb_X6_59 rfl hl.1 rfl rfl (Nat.le_of_ble_eq_true rfl) ⟨Nat.le_of_ble_eq_true rfl, Nat.le_of_ble_eq_true rfl⟩ (dk T_X6_isShapeItem 21 rfl) (fun H locs Y => ?_)
          refine lv_if_ne (tgt := 51) X.1 X.2.1 (dk T_X6_isShapeItem 22 rfl) rfl (fun c10 => ?_) (fun c10 => ?_)
          · replace h := ineg c10 h
            refine lv_aload_n X.1 X.2.1 (dk T_X6_isShapeItem 25 rfl) rfl (lv_at hl 0 rfl) ?_
            refine lv_aload_n X.1 X.2.1 (dk T_X6_isShapeItem 26 rfl) rfl (lv_at hl 0 rfl) ?_
            refine gg X Y fl_X6_62 rfl rfl (dk T_X6_isShapeItem 27 rfl) ?_
            refine gp X Y fp_X6_68 rfl (nar_int _) (dk T_X6_isShapeItem 28 rfl) (fun H locs Y => ?_)
            refine lv_iconst (v := 1) X.1 X.2.1 (dk T_X6_isShapeItem 29 rfl) ic_1 ?_
            obtain rfl := Option.some.inj h
            exact KR _ _ _ _ Y (dk T_X6_isShapeItem 30 rfl)
          · replace h := ipos c10 h
            refine lv_iconst (v := 0) X.1 X.2.1 (dk T_X6_isShapeItem 23 rfl) ic_0 ?_
            obtain rfl := Option.some.inj h
            exact KR _ _ _ _ Y (dk T_X6_isShapeItem 24 rfl)
      · replace h := ipos c6 h
        refine lv_iconst (v := 0) X.1 X.2.1 (dk T_X6_isShapeItem 10 rfl) ic_0 ?_
        obtain rfl := Option.some.inj h
        exact KR _ _ _ _ Y (dk T_X6_isShapeItem 11 rfl)
def f_X6_isShapeItem (σ : St) : Option (Int32 × St) := bzW (f_X6_isShapeItem_0 σ)
set_option maxHeartbeats 4000000 in
set_option maxRecDepth 100000 in
theorem c_X6_isShapeItem {l : Launch} {g : Geo} (σ : St) {w : Int32 × St} (h : f_X6_isShapeItem σ = some w) : CtI l yX6_isShapeItem cX6_isShapeItem 1 (some .boolean) (rmm 3 64) g [.ref (g.2.2 (99))] σ w.1 w.2 := by
  obtain ⟨h, hz⟩ := bzW_s h
  exact enI .boolean (by decide) rfl (bz_n hz) (Nat.le_of_ble_eq_true rfl) (fun p e s m args below meth c Q X Y ls hl KR => w_X6_isShapeItem_0 X σ KR Y hl h)
def I_X6_isSpoilItem : List (Nat × Instr × Nat) := [(0, .aload_n 0, 1), (1, .invokevirtual 77, 3), (4, .ifCond .ne 5, 3), (7, .iconst 0, 1), (8, .ireturn, 1), (9, .aload_n 0, 1), (10, .aload_n 0, 1), (11, .getfield 62, 3), (14, .putfield 65, 3), (17, .aload_n 0, 1), (18, .bipush 58, 2), (20, .invokevirtual 38, 3), (23, .ifCond .eq 10, 3), (26, .aload_n 0, 1), (27, .invokevirtual 59, 3), (30, .ifCond .ne 5, 3), (33, .iconst 0, 1), (34, .ireturn, 1), (35, .aload_n 0, 1), (36, .aload_n 0, 1), (37, .getfield 62, 3), (40, .putfield 68, 3), (43, .iconst 1, 1), (44, .ireturn, 1)]
set_option maxRecDepth 100000 in
theorem T_X6_isSpoilItem : ∀ q ∈ I_X6_isSpoilItem, decode cX6_isSpoilItem q.1 = .ok (q.2.1, q.2.2) := by decide +kernel
def f_X6_isSpoilItem_0 (σ : St) : Option (Int32 × St) :=
  (f_X6_isDigit σ).bind fun q1 => if q1.1 = 0 then some (0, q1.2) else (f_X6_accepts 58 (up q1.2 99 6 (q1.2 99 5))).bind fun q3 => if q3.1 = 0 then some (0, q3.2) else (f_X6_isNumber q3.2).bind fun q5 => if q5.1 = 0 then some (0, q5.2) else some (1, up q5.2 99 7 (q5.2 99 5))
set_option maxHeartbeats 4000000 in
set_option maxRecDepth 100000 in
theorem w_X6_isSpoilItem_0 (X : Cx g RX6 cX6_isSpoilItem 1 (some .boolean) p s m args meth c) (σ : St) {w : Int32 × St} (KR : ∀ (H : Heap) (locs : List Loc) (ls : Array Slot) (pc : Nat), Wd g s w.2 H locs → decode cX6_isSpoilItem pc = .ok (.ireturn, 1) → W p l e (rmm 3 61) s m args below meth c H locs 0 0 Q (F0 m pc ls [.int (w.1)])) {H : Heap} {locs : List Loc} {ls : Array Slot} (Y : Wd g s σ H locs) (hl : lv_has ls 1 [(0, .ref (g.2.2 (99)))]) (h : f_X6_isSpoilItem_0 σ = some w) : W p l e (rmm 3 61) s m args below meth c H locs 0 0 Q (F0 m 0 ls []) := by
  unfold f_X6_isSpoilItem_0 at h
  refine lv_aload_n X.1 X.2.1 (dk T_X6_isSpoilItem 0 rfl) rfl (lv_at hl 0 rfl) ?_
  obtain ⟨q1, hq1, h⟩ := bs h
  refine gvI (rest := []) X Y (c_X6_isDigit σ hq1) cb_X6_77 rfl hl.1 rfl rfl (Nat.le_of_ble_eq_true rfl) ⟨Nat.le_of_ble_eq_true rfl, Nat.le_of_ble_eq_true rfl⟩ (dk T_X6_isSpoilItem 1 rfl) (fun H locs Y => ?_)
  refine lv_if_ne (tgt := 9) X.1 X.2.1 (dk T_X6_isSpoilItem 2 rfl) rfl (fun c2 => ?_) (fun c2 => ?_)
  · replace h := ineg c2 h
    refine lv_aload_n X.1 X.2.1 (dk T_X6_isSpoilItem 5 rfl) rfl (lv_at hl 0 rfl) ?_
    refine lv_aload_n X.1 X.2.1 (dk T_X6_isSpoilItem 6 rfl) rfl (lv_at hl 0 rfl) ?_
    refine gg X Y fl_X6_62 rfl rfl (dk T_X6_isSpoilItem 7 rfl) ?_
    refine gp X Y fp_X6_65 rfl (nar_int _) (dk T_X6_isSpoilItem 8 rfl) (fun H locs Y => ?_)
    refine lv_aload_n X.1 X.2.1 (dk T_X6_isSpoilItem 9 rfl) rfl (lv_at hl 0 rfl) ?_
    refine lv_bipush (v := 58) X.1 X.2.1 (dk T_X6_isSpoilItem 10 rfl) bp_58 ?_
    obtain ⟨q3, hq3, h⟩ := bs h
    refine gvI (rest := []) X Y (c_X6_accepts 58 (up q1.2 99 6 (q1.2 99 5)) hq3) cb_X6_38 rfl hl.1 rfl rfl (Nat.le_of_ble_eq_true rfl) ⟨Nat.le_of_ble_eq_true rfl, Nat.le_of_ble_eq_true rfl⟩ (dk T_X6_isSpoilItem 11 rfl) (fun H locs Y => ?_)
    refine lv_if_eq (tgt := 33) X.1 X.2.1 (dk T_X6_isSpoilItem 12 rfl) rfl (fun c4 => ?_) (fun c4 => ?_)
    · replace h := ipos c4 h
      refine lv_iconst (v := 0) X.1 X.2.1 (dk T_X6_isSpoilItem 16 rfl) ic_0 ?_
      obtain rfl := Option.some.inj h
      exact KR _ _ _ _ Y (dk T_X6_isSpoilItem 17 rfl)
    · replace h := ineg c4 h
      refine lv_aload_n X.1 X.2.1 (dk T_X6_isSpoilItem 13 rfl) rfl (lv_at hl 0 rfl) ?_
      obtain ⟨q5, hq5, h⟩ := bs h
      refine gvI (rest := []) X Y (c_X6_isNumber q3.2 hq5) cb_X6_59 rfl hl.1 rfl rfl (Nat.le_of_ble_eq_true rfl) ⟨Nat.le_of_ble_eq_true rfl, Nat.le_of_ble_eq_true rfl⟩ (dk T_X6_isSpoilItem 14 rfl) (fun H locs Y => ?_)
      refine lv_if_ne (tgt := 35) X.1 X.2.1 (dk T_X6_isSpoilItem 15 rfl) rfl (fun c6 => ?_) (fun c6 => ?_)
      · replace h := ineg c6 h
        refine lv_aload_n X.1 X.2.1 (dk T_X6_isSpoilItem 18 rfl) rfl (lv_at hl 0 rfl) ?_
        refine lv_aload_n X.1 X.2.1 (dk T_X6_isSpoilItem 19 rfl) rfl (lv_at hl 0 rfl) ?_
        refine gg X Y fl_X6_62 rfl rfl (dk T_X6_isSpoilItem 20 rfl) ?_
        refine gp X Y fp_X6_68 rfl (nar_int _) (dk T_X6_isSpoilItem 21 rfl) (fun H locs Y => ?_)
        refine lv_iconst (v := 1) X.1 X.2.1 (dk T_X6_isSpoilItem 22 rfl) ic_1 ?_
        obtain rfl := Option.some.inj h
        exact KR _ _ _ _ Y (dk T_X6_isSpoilItem 23 rfl)
      · replace h := ipos c6 h
        refine lv_iconst (v := 0) X.1 X.2.1 (dk T_X6_isSpoilItem 16 rfl) ic_0 ?_
        obtain rfl := Option.some.inj h
        exact KR _ _ _ _ Y (dk T_X6_isSpoilItem 17 rfl)
  · replace h := ipos c2 h
    refine lv_iconst (v := 0) X.1 X.2.1 (dk T_X6_isSpoilItem 3 rfl) ic_0 ?_
    obtain rfl := Option.some.inj h
    exact KR _ _ _ _ Y (dk T_X6_isSpoilItem 4 rfl)
def f_X6_isSpoilItem (σ : St) : Option (Int32 × St) := bzW (f_X6_isSpoilItem_0 σ)
set_option maxHeartbeats 4000000 in
set_option maxRecDepth 100000 in
theorem c_X6_isSpoilItem {l : Launch} {g : Geo} (σ : St) {w : Int32 × St} (h : f_X6_isSpoilItem σ = some w) : CtI l yX6_isSpoilItem cX6_isSpoilItem 1 (some .boolean) (rmm 3 61) g [.ref (g.2.2 (99))] σ w.1 w.2 := by
  obtain ⟨h, hz⟩ := bzW_s h
  exact enI .boolean (by decide) rfl (bz_n hz) (Nat.le_of_ble_eq_true rfl) (fun p e s m args below meth c Q X Y ls hl KR => w_X6_isSpoilItem_0 X σ KR Y hl h)
def I_X6_isItem : List (Nat × Instr × Nat) := [(0, .aload_n 0, 1), (1, .aload_n 0, 1), (2, .invokevirtual 42, 3), (5, .putfield 46, 3), (8, .aload_n 0, 1), (9, .bipush 115, 2), (11, .invokevirtual 38, 3), (14, .ifCond .eq 8, 3), (17, .aload_n 0, 1), (18, .invokevirtual 50, 3), (21, .ireturn, 1), (22, .aload_n 0, 1), (23, .bipush 112, 2), (25, .invokevirtual 38, 3), (28, .ifCond .eq 8, 3), (31, .aload_n 0, 1), (32, .invokevirtual 53, 3), (35, .ireturn, 1), (36, .aload_n 0, 1), (37, .bipush 100, 2), (39, .invokevirtual 38, 3), (42, .ifCond .eq 14, 3), (45, .aload_n 0, 1), (46, .invokevirtual 56, 3), (49, .ifCond .eq 7, 3), (52, .iconst 1, 1), (53, .goto 4, 3), (56, .iconst 0, 1), (57, .ireturn, 1)]
set_option maxRecDepth 100000 in
theorem T_X6_isItem : ∀ q ∈ I_X6_isItem, decode cX6_isItem q.1 = .ok (q.2.1, q.2.2) := by decide +kernel
def f_X6_isItem_0 (σ : St) : Option (Int32 × St) :=
  (f_X6_next σ).bind fun q1 => chk (okc q1) ((f_X6_accepts 115 (up σ 99 4 q1)).bind fun q3 => if q3.1 = 0 then (f_X6_accepts 112 q3.2).bind fun q5 => if q5.1 = 0 then (f_X6_accepts 100 q5.2).bind fun q7 => if q7.1 = 0 then some (0, q7.2) else (f_X6_isSpoilItem q7.2).bind fun q9 => if q9.1 = 0 then some (0, q9.2) else some (1, q9.2) else (f_X6_isShapeItem q5.2).bind fun q11 => some (q11.1, q11.2) else (f_X6_isSheetItem q3.2).bind fun q12 => some (q12.1, q12.2))
set_option maxHeartbeats 4000000 in
set_option maxRecDepth 100000 in
theorem w_X6_isItem_0 (X : Cx g RX6 cX6_isItem 1 (some .boolean) p s m args meth c) (σ : St) {w : Int32 × St} (KR : ∀ (H : Heap) (locs : List Loc) (ls : Array Slot) (pc : Nat), Wd g s w.2 H locs → decode cX6_isItem pc = .ok (.ireturn, 1) → W p l e (rmm 4 84) s m args below meth c H locs 0 0 Q (F0 m pc ls [.int (w.1)])) {H : Heap} {locs : List Loc} {ls : Array Slot} (Y : Wd g s σ H locs) (hl : lv_has ls 1 [(0, .ref (g.2.2 (99)))]) (h : f_X6_isItem_0 σ = some w) : W p l e (rmm 4 84) s m args below meth c H locs 0 0 Q (F0 m 0 ls []) := by
  unfold f_X6_isItem_0 at h
  refine lv_aload_n X.1 X.2.1 (dk T_X6_isItem 0 rfl) rfl (lv_at hl 0 rfl) ?_
  refine lv_aload_n X.1 X.2.1 (dk T_X6_isItem 1 rfl) rfl (lv_at hl 0 rfl) ?_
  obtain ⟨q1, hq1, h⟩ := bs h
  refine gvI (rest := [.ref (g.2.2 (99))]) X Y (c_X6_next σ hq1) cb_X6_42 rfl hl.1 rfl rfl (Nat.le_of_ble_eq_true rfl) ⟨Nat.le_of_ble_eq_true rfl, Nat.le_of_ble_eq_true rfl⟩ (dk T_X6_isItem 2 rfl) (fun H locs Y => ?_)
  obtain ⟨g2, h⟩ := gd h
  refine gp X Y fp_X6_46 rfl (nar_c g2) (dk T_X6_isItem 3 rfl) (fun H locs Y => ?_)
  refine lv_aload_n X.1 X.2.1 (dk T_X6_isItem 4 rfl) rfl (lv_at hl 0 rfl) ?_
  refine lv_bipush (v := 115) X.1 X.2.1 (dk T_X6_isItem 5 rfl) bp_115 ?_
  obtain ⟨q3, hq3, h⟩ := bs h
  refine gvI (rest := []) X Y (c_X6_accepts 115 (up σ 99 4 q1) hq3) cb_X6_38 rfl hl.1 rfl rfl (Nat.le_of_ble_eq_true rfl) ⟨Nat.le_of_ble_eq_true rfl, Nat.le_of_ble_eq_true rfl⟩ (dk T_X6_isItem 6 rfl) (fun H locs Y => ?_)
  refine lv_if_eq (tgt := 22) X.1 X.2.1 (dk T_X6_isItem 7 rfl) rfl (fun c4 => ?_) (fun c4 => ?_)
  · replace h := ipos c4 h
    refine lv_aload_n X.1 X.2.1 (dk T_X6_isItem 11 rfl) rfl (lv_at hl 0 rfl) ?_
    refine lv_bipush (v := 112) X.1 X.2.1 (dk T_X6_isItem 12 rfl) bp_112 ?_
    obtain ⟨q5, hq5, h⟩ := bs h
    refine gvI (rest := []) X Y (c_X6_accepts 112 q3.2 hq5) cb_X6_38 rfl hl.1 rfl rfl (Nat.le_of_ble_eq_true rfl) ⟨Nat.le_of_ble_eq_true rfl, Nat.le_of_ble_eq_true rfl⟩ (dk T_X6_isItem 13 rfl) (fun H locs Y => ?_)
    refine lv_if_eq (tgt := 36) X.1 X.2.1 (dk T_X6_isItem 14 rfl) rfl (fun c6 => ?_) (fun c6 => ?_)
    · replace h := ipos c6 h
      refine lv_aload_n X.1 X.2.1 (dk T_X6_isItem 18 rfl) rfl (lv_at hl 0 rfl) ?_
      refine lv_bipush (v := 100) X.1 X.2.1 (dk T_X6_isItem 19 rfl) bp_100 ?_
      obtain ⟨q7, hq7, h⟩ := bs h
      refine gvI (rest := []) X Y (c_X6_accepts 100 q5.2 hq7) cb_X6_38 rfl hl.1 rfl rfl (Nat.le_of_ble_eq_true rfl) ⟨Nat.le_of_ble_eq_true rfl, Nat.le_of_ble_eq_true rfl⟩ (dk T_X6_isItem 20 rfl) (fun H locs Y => ?_)
      refine lv_if_eq (tgt := 56) X.1 X.2.1 (dk T_X6_isItem 21 rfl) rfl (fun c8 => ?_) (fun c8 => ?_)
      · replace h := ipos c8 h
        refine lv_iconst (v := 0) X.1 X.2.1 (dk T_X6_isItem 27 rfl) ic_0 ?_
        obtain rfl := Option.some.inj h
        exact KR _ _ _ _ Y (dk T_X6_isItem 28 rfl)
      · replace h := ineg c8 h
        refine lv_aload_n X.1 X.2.1 (dk T_X6_isItem 22 rfl) rfl (lv_at hl 0 rfl) ?_
        obtain ⟨q9, hq9, h⟩ := bs h
        refine gvI (rest := []) X Y (c_X6_isSpoilItem q7.2 hq9) cb_X6_56 rfl hl.1 rfl rfl (Nat.le_of_ble_eq_true rfl) ⟨Nat.le_of_ble_eq_true rfl, Nat.le_of_ble_eq_true rfl⟩ (dk T_X6_isItem 23 rfl) (fun H locs Y => ?_)
        refine lv_if_eq (tgt := 56) X.1 X.2.1 (dk T_X6_isItem 24 rfl) rfl (fun c10 => ?_) (fun c10 => ?_)
        · replace h := ipos c10 h
          refine lv_iconst (v := 0) X.1 X.2.1 (dk T_X6_isItem 27 rfl) ic_0 ?_
          obtain rfl := Option.some.inj h
          exact KR _ _ _ _ Y (dk T_X6_isItem 28 rfl)
        · replace h := ineg c10 h
          refine lv_iconst (v := 1) X.1 X.2.1 (dk T_X6_isItem 25 rfl) ic_1 ?_
          refine lv_goto (tgt := 57) X.1 X.2.1 (dk T_X6_isItem 26 rfl) rfl ?_
          obtain rfl := Option.some.inj h
          exact KR _ _ _ _ Y (dk T_X6_isItem 28 rfl)
    · replace h := ineg c6 h
      refine lv_aload_n X.1 X.2.1 (dk T_X6_isItem 15 rfl) rfl (lv_at hl 0 rfl) ?_
      obtain ⟨q11, hq11, h⟩ := bs h
      refine gvI (rest := []) X Y (c_X6_isShapeItem q5.2 hq11) cb_X6_53 rfl hl.1 rfl rfl (Nat.le_of_ble_eq_true rfl) ⟨Nat.le_of_ble_eq_true rfl, Nat.le_of_ble_eq_true rfl⟩ (dk T_X6_isItem 16 rfl) (fun H locs Y => ?_)
      obtain rfl := Option.some.inj h
      exact KR _ _ _ _ Y (dk T_X6_isItem 17 rfl)
  · replace h := ineg c4 h
    refine lv_aload_n X.1 X.2.1 (dk T_X6_isItem 8 rfl) rfl (lv_at hl 0 rfl) ?_
    obtain ⟨q12, hq12, h⟩ := bs h
    refine gvI (rest := []) X Y (c_X6_isSheetItem q3.2 hq12) cb_X6_50 rfl hl.1 rfl rfl (Nat.le_of_ble_eq_true rfl) ⟨Nat.le_of_ble_eq_true rfl, Nat.le_of_ble_eq_true rfl⟩ (dk T_X6_isItem 9 rfl) (fun H locs Y => ?_)
    obtain rfl := Option.some.inj h
    exact KR _ _ _ _ Y (dk T_X6_isItem 10 rfl)
def f_X6_isItem (σ : St) : Option (Int32 × St) := bzW (f_X6_isItem_0 σ)
set_option maxHeartbeats 4000000 in
set_option maxRecDepth 100000 in
theorem c_X6_isItem {l : Launch} {g : Geo} (σ : St) {w : Int32 × St} (h : f_X6_isItem σ = some w) : CtI l yX6_isItem cX6_isItem 1 (some .boolean) (rmm 4 84) g [.ref (g.2.2 (99))] σ w.1 w.2 := by
  obtain ⟨h, hz⟩ := bzW_s h
  exact enI .boolean (by decide) rfl (bz_n hz) (Nat.le_of_ble_eq_true rfl) (fun p e s m args below meth c Q X Y ls hl KR => w_X6_isItem_0 X σ KR Y hl h)
def I_X6_countItems : List (Nat × Instr × Nat) := [(0, .aload_n 0, 1), (1, .invokevirtual 31, 3), (4, .aload_n 0, 1), (5, .iconst 0, 1), (6, .putfield 22, 3), (9, .aload_n 0, 1), (10, .getfield 22, 3), (13, .aload_n 0, 1), (14, .getfield 15, 3), (17, .if_icmp .gt 54, 3), (20, .aload_n 0, 1), (21, .invokevirtual 34, 3), (24, .ifCond .ne 5, 3), (27, .iconst (-1), 1), (28, .ireturn, 1), (29, .aload_n 0, 1), (30, .getfield 19, 3), (33, .aload_n 0, 1), (34, .getfield 15, 3), (37, .if_icmp .lt 10, 3), (40, .aload_n 0, 1), (41, .getfield 22, 3), (44, .iconst 1, 1), (45, .iadd, 1), (46, .ireturn, 1), (47, .aload_n 0, 1), (48, .bipush 59, 2), (50, .invokevirtual 38, 3), (53, .ifCond .ne 5, 3), (56, .iconst (-1), 1), (57, .ireturn, 1), (58, .aload_n 0, 1), (59, .dup, 1), (60, .getfield 22, 3), (63, .iconst 1, 1), (64, .iadd, 1), (65, .putfield 22, 3), (68, .goto (-59), 3), (71, .iconst (-1), 1), (72, .ireturn, 1)]
set_option maxRecDepth 100000 in
theorem T_X6_countItems : ∀ q ∈ I_X6_countItems, decode cX6_countItems q.1 = .ok (q.2.1, q.2.2) := by decide +kernel
def f_X6_countItems_l9 (z : St) : Option ((St) ⊕ ((St) ⊕ ((St) ⊕ ((St) ⊕ (St))))) :=
  if (z 99 1) < (z 99 3) then some (.inr (.inl z)) else (f_X6_isItem z).bind fun q3 => if q3.1 = 0 then some (.inr (.inr (.inl q3.2))) else if (q3.2 99 2) < (q3.2 99 1) then (f_X6_accepts 59 q3.2).bind fun q6 => if q6.1 = 0 then some (.inr (.inr (.inr (.inr q6.2)))) else some (.inl (up q6.2 99 3 ((q6.2 99 3) + 1))) else some (.inr (.inr (.inr (.inl q3.2))))
set_option maxHeartbeats 4000000 in
set_option maxRecDepth 100000 in
theorem w_X6_countItems_l9 (X : Cx g RX6 cX6_countItems 1 (some .int) p s m args meth c) (σ : St) {r : (St) ⊕ ((St) ⊕ ((St) ⊕ (St)))} (KX0 : ∀ (v : St), r = (.inl v) → ∀ (H : Heap) (locs : List Loc) (ls : Array Slot), Wd g s v H locs → lv_has ls 1 [] → W p l e (rmm 5 104) s m args below meth c H locs 0 0 Q (F0 m 71 ls [])) (KX1 : ∀ (v : St), r = (.inr (.inl v)) → ∀ (H : Heap) (locs : List Loc) (ls : Array Slot), Wd g s v H locs → lv_has ls 1 [] → W p l e (rmm 5 104) s m args below meth c H locs 0 0 Q (F0 m 27 ls [])) (KX2 : ∀ (v : St), r = (.inr (.inr (.inl v))) → ∀ (H : Heap) (locs : List Loc) (ls : Array Slot), Wd g s v H locs → lv_has ls 1 [(0, .ref (g.2.2 (99)))] → W p l e (rmm 5 104) s m args below meth c H locs 0 0 Q (F0 m 40 ls [])) (KX3 : ∀ (v : St), r = (.inr (.inr (.inr v))) → ∀ (H : Heap) (locs : List Loc) (ls : Array Slot), Wd g s v H locs → lv_has ls 1 [] → W p l e (rmm 5 104) s m args below meth c H locs 0 0 Q (F0 m 56 ls [])) : ∀ (n : Nat) (z : St) {H : Heap} {locs : List Loc} {ls : Array Slot}, Wd g s z H locs → lv_has ls 1 [(0, .ref (g.2.2 (99)))] → lp (f_X6_countItems_l9) n z = some r → W p l e (rmm 5 104) s m args below meth c H locs 0 0 Q (F0 m 9 ls []) := by
  intro n
  induction n with
  | zero => intro z H locs ls Y hl h; cases h
  | succ n ih =>
    intro z H locs ls Y hl h
    obtain ⟨w, h, hw⟩ := lps h
    have KB : ∀ (v : St), w = .inl v → ∀ (H : Heap) (locs : List Loc) (ls : Array Slot), Wd g s v H locs → lv_has ls 1 [(0, .ref (g.2.2 (99)))] → W p l e (rmm 5 104) s m args below meth c H locs 0 0 Q (F0 m 9 ls []) := fun v e H locs ls Y hl => ih v Y hl (lpl hw e)
    have KX0 := fun (v : St) (e : w = .inr (.inl v)) => KX0 v (lpr hw e)
    have KX1 := fun (v : St) (e : w = .inr (.inr (.inl v))) => KX1 v (lpr hw e)
    have KX2 := fun (v : St) (e : w = .inr (.inr (.inr (.inl v)))) => KX2 v (lpr hw e)
    have KX3 := fun (v : St) (e : w = .inr (.inr (.inr (.inr v)))) => KX3 v (lpr hw e)
    unfold f_X6_countItems_l9 at h
    refine lv_aload_n X.1 X.2.1 (dk T_X6_countItems 5 rfl) rfl (lv_at hl 0 rfl) ?_
    refine gg X Y fl_X6_22 rfl rfl (dk T_X6_countItems 6 rfl) ?_
    refine lv_aload_n X.1 X.2.1 (dk T_X6_countItems 7 rfl) rfl (lv_at hl 0 rfl) ?_
    refine gg X Y fl_X6_15 rfl rfl (dk T_X6_countItems 8 rfl) ?_
    refine lv_icmp_gt (tgt := 71) X.1 X.2.1 (dk T_X6_countItems 9 rfl) rfl (fun c2 => ?_) (fun c2 => ?_)
    · replace h := ipos c2 h
      exact KX0 z (Option.some.inj h).symm _ _ _ Y (lv_sub hl [] rfl)
    · replace h := ineg c2 h
      refine lv_aload_n X.1 X.2.1 (dk T_X6_countItems 10 rfl) rfl (lv_at hl 0 rfl) ?_
      obtain ⟨q3, hq3, h⟩ := bs h
      refine gvI (rest := []) X Y (c_X6_isItem z hq3) cb_X6_34 rfl hl.1 rfl rfl (Nat.le_of_ble_eq_true rfl) ⟨Nat.le_of_ble_eq_true rfl, Nat.le_of_ble_eq_true rfl⟩ (dk T_X6_countItems 11 rfl) (fun H locs Y => ?_)
      refine lv_if_ne (tgt := 29) X.1 X.2.1 (dk T_X6_countItems 12 rfl) rfl (fun c4 => ?_) (fun c4 => ?_)
      · replace h := ineg c4 h
        refine lv_aload_n X.1 X.2.1 (dk T_X6_countItems 15 rfl) rfl (lv_at hl 0 rfl) ?_
        refine gg X Y fl_X6_19 rfl rfl (dk T_X6_countItems 16 rfl) ?_
        refine lv_aload_n X.1 X.2.1 (dk T_X6_countItems 17 rfl) rfl (lv_at hl 0 rfl) ?_
        refine gg X Y fl_X6_15 rfl rfl (dk T_X6_countItems 18 rfl) ?_
        refine lv_icmp_lt (tgt := 47) X.1 X.2.1 (dk T_X6_countItems 19 rfl) rfl (fun c5 => ?_) (fun c5 => ?_)
        · replace h := ipos c5 h
          refine lv_aload_n X.1 X.2.1 (dk T_X6_countItems 25 rfl) rfl (lv_at hl 0 rfl) ?_
          refine lv_bipush (v := 59) X.1 X.2.1 (dk T_X6_countItems 26 rfl) bp_59 ?_
          obtain ⟨q6, hq6, h⟩ := bs h
          refine gvI (rest := []) X Y (c_X6_accepts 59 q3.2 hq6) cb_X6_38 rfl hl.1 rfl rfl (Nat.le_of_ble_eq_true rfl) ⟨Nat.le_of_ble_eq_true rfl, Nat.le_of_ble_eq_true rfl⟩ (dk T_X6_countItems 27 rfl) (fun H locs Y => ?_)
          refine lv_if_ne (tgt := 58) X.1 X.2.1 (dk T_X6_countItems 28 rfl) rfl (fun c7 => ?_) (fun c7 => ?_)
          · replace h := ineg c7 h
            refine lv_aload_n X.1 X.2.1 (dk T_X6_countItems 31 rfl) rfl (lv_at hl 0 rfl) ?_
            refine lv_dup X.1 X.2.1 (dk T_X6_countItems 32 rfl) rfl ?_
            refine gg X Y fl_X6_22 rfl rfl (dk T_X6_countItems 33 rfl) ?_
            refine lv_iconst (v := 1) X.1 X.2.1 (dk T_X6_countItems 34 rfl) ic_1 ?_
            refine lv_iadd X.1 X.2.1 (dk T_X6_countItems 35 rfl) ?_
            refine gp X Y fp_X6_22 rfl (nar_int _) (dk T_X6_countItems 36 rfl) (fun H locs Y => ?_)
            refine lv_goto (tgt := 9) X.1 X.2.1 (dk T_X6_countItems 37 rfl) rfl ?_
            exact KB (up q6.2 99 3 ((q6.2 99 3) + 1)) (Option.some.inj h).symm _ _ _ Y (lv_sub hl [0] rfl)
          · replace h := ipos c7 h
            exact KX3 q6.2 (Option.some.inj h).symm _ _ _ Y (lv_sub hl [] rfl)
        · replace h := ineg c5 h
          exact KX2 q3.2 (Option.some.inj h).symm _ _ _ Y (lv_sub hl [0] rfl)
      · replace h := ipos c4 h
        exact KX1 q3.2 (Option.some.inj h).symm _ _ _ Y (lv_sub hl [] rfl)
def f_X6_countItems_0 (σ : St) : Option (Int32 × St) :=
  (f_X6_rewind σ).bind fun q1 => (lp (f_X6_countItems_l9) FU (up q1 99 3 0)).bind fun q8 => Sum.elim (fun v9 => some ((-1), v9)) (Sum.elim (fun v10 => some ((-1), v10)) (Sum.elim (fun v11 => some ((v11 99 3) + 1, v11)) (fun v12 => some ((-1), v12)))) q8
set_option maxHeartbeats 4000000 in
set_option maxRecDepth 100000 in
theorem w_X6_countItems_0 (X : Cx g RX6 cX6_countItems 1 (some .int) p s m args meth c) (σ : St) {w : Int32 × St} (KR : ∀ (H : Heap) (locs : List Loc) (ls : Array Slot) (pc : Nat), Wd g s w.2 H locs → decode cX6_countItems pc = .ok (.ireturn, 1) → W p l e (rmm 5 104) s m args below meth c H locs 0 0 Q (F0 m pc ls [.int (w.1)])) {H : Heap} {locs : List Loc} {ls : Array Slot} (Y : Wd g s σ H locs) (hl : lv_has ls 1 [(0, .ref (g.2.2 (99)))]) (h : f_X6_countItems_0 σ = some w) : W p l e (rmm 5 104) s m args below meth c H locs 0 0 Q (F0 m 0 ls []) := by
  unfold f_X6_countItems_0 at h
  refine lv_aload_n X.1 X.2.1 (dk T_X6_countItems 0 rfl) rfl (lv_at hl 0 rfl) ?_
  obtain ⟨q1, hq1, h⟩ := bs h
  refine gvV (rest := []) X Y (c_X6_rewind σ hq1) cb_X6_31 rfl hl.1 rfl rfl (Nat.le_of_ble_eq_true rfl) ⟨Nat.le_of_ble_eq_true rfl, Nat.le_of_ble_eq_true rfl⟩ (dk T_X6_countItems 1 rfl) (fun H locs Y => ?_)
  refine lv_aload_n X.1 X.2.1 (dk T_X6_countItems 2 rfl) rfl (lv_at hl 0 rfl) ?_
  refine lv_iconst (v := 0) X.1 X.2.1 (dk T_X6_countItems 3 rfl) ic_0 ?_
  refine gp X Y fp_X6_22 rfl (nar_int _) (dk T_X6_countItems 4 rfl) (fun H locs Y => ?_)
  obtain ⟨q8, hq8, h⟩ := bs h
  refine w_X6_countItems_l9 X σ (fun v e H locs ls Y hl => ?_) (fun v e H locs ls Y hl => ?_) (fun v e H locs ls Y hl => ?_) (fun v e H locs ls Y hl => ?_) FU (up q1 99 3 0) Y (lv_sub hl [0] rfl) hq8
  · obtain rfl := e
    replace h := sel h
    refine lv_iconst (v := (-1)) X.1 X.2.1 (dk T_X6_countItems 38 rfl) ic_m1 ?_
    obtain rfl := Option.some.inj h
    exact KR _ _ _ _ Y (dk T_X6_countItems 39 rfl)
  · obtain rfl := e
    replace h := ser h
    replace h := sel h
    refine lv_iconst (v := (-1)) X.1 X.2.1 (dk T_X6_countItems 13 rfl) ic_m1 ?_
    obtain rfl := Option.some.inj h
    exact KR _ _ _ _ Y (dk T_X6_countItems 14 rfl)
  · obtain rfl := e
    replace h := ser h
    replace h := ser h
    replace h := sel h
    refine lv_aload_n X.1 X.2.1 (dk T_X6_countItems 20 rfl) rfl (lv_at hl 0 rfl) ?_
    refine gg X Y fl_X6_22 rfl rfl (dk T_X6_countItems 21 rfl) ?_
    refine lv_iconst (v := 1) X.1 X.2.1 (dk T_X6_countItems 22 rfl) ic_1 ?_
    refine lv_iadd X.1 X.2.1 (dk T_X6_countItems 23 rfl) ?_
    obtain rfl := Option.some.inj h
    exact KR _ _ _ _ Y (dk T_X6_countItems 24 rfl)
  · obtain rfl := e
    replace h := ser h
    replace h := ser h
    replace h := ser h
    refine lv_iconst (v := (-1)) X.1 X.2.1 (dk T_X6_countItems 29 rfl) ic_m1 ?_
    obtain rfl := Option.some.inj h
    exact KR _ _ _ _ Y (dk T_X6_countItems 30 rfl)
def f_X6_countItems (σ : St) : Option (Int32 × St) := f_X6_countItems_0 σ
set_option maxHeartbeats 4000000 in
set_option maxRecDepth 100000 in
theorem c_X6_countItems {l : Launch} {g : Geo} (σ : St) {w : Int32 × St} (h : f_X6_countItems σ = some w) : CtI l yX6_countItems cX6_countItems 1 (some .int) (rmm 5 104) g [.ref (g.2.2 (99))] σ w.1 w.2 := enI .int (by decide) rfl rfl (Nat.le_of_ble_eq_true rfl) (fun p e s m args below meth c Q X Y ls hl KR => w_X6_countItems_0 X σ KR Y hl h)
def I_X6_fail : List (Nat × Instr × Nat) := [(0, .aload_n 0, 1), (1, .iload_n 1, 1), (2, .putfield 25, 3), (5, .aload_n 0, 1), (6, .iload_n 2, 1), (7, .putfield 28, 3), (10, .iconst 0, 1), (11, .ireturn, 1)]
set_option maxRecDepth 100000 in
theorem T_X6_fail : ∀ q ∈ I_X6_fail, decode cX6_fail q.1 = .ok (q.2.1, q.2.2) := by decide +kernel
def f_X6_fail_0 (x1 : Int32) (x2 : Int32) (σ : St) : Option (Int32 × St) :=
  some (0, up (up σ 99 13 x1) 99 14 x2)
set_option maxHeartbeats 4000000 in
set_option maxRecDepth 100000 in
theorem w_X6_fail_0 (X : Cx g RX6 cX6_fail 3 (some .boolean) p s m args meth c) (x1 : Int32) (x2 : Int32) (σ : St) {w : Int32 × St} (KR : ∀ (H : Heap) (locs : List Loc) (ls : Array Slot) (pc : Nat), Wd g s w.2 H locs → decode cX6_fail pc = .ok (.ireturn, 1) → W p l e (rmm 0 0) s m args below meth c H locs 0 0 Q (F0 m pc ls [.int (w.1)])) {H : Heap} {locs : List Loc} {ls : Array Slot} (Y : Wd g s σ H locs) (hl : lv_has ls 3 [(0, .ref (g.2.2 (99))), (1, .int (x1)), (2, .int (x2))]) (h : f_X6_fail_0 x1 x2 σ = some w) : W p l e (rmm 0 0) s m args below meth c H locs 0 0 Q (F0 m 0 ls []) := by
  unfold f_X6_fail_0 at h
  refine lv_aload_n X.1 X.2.1 (dk T_X6_fail 0 rfl) rfl (lv_at hl 0 rfl) ?_
  refine lv_iload_n X.1 X.2.1 (dk T_X6_fail 1 rfl) rfl (lv_at hl 1 rfl) ?_
  refine gp X Y fp_X6_25 rfl (nar_int _) (dk T_X6_fail 2 rfl) (fun H locs Y => ?_)
  refine lv_aload_n X.1 X.2.1 (dk T_X6_fail 3 rfl) rfl (lv_at hl 0 rfl) ?_
  refine lv_iload_n X.1 X.2.1 (dk T_X6_fail 4 rfl) rfl (lv_at hl 2 rfl) ?_
  refine gp X Y fp_X6_28 rfl (nar_int _) (dk T_X6_fail 5 rfl) (fun H locs Y => ?_)
  refine lv_iconst (v := 0) X.1 X.2.1 (dk T_X6_fail 6 rfl) ic_0 ?_
  obtain rfl := Option.some.inj h
  exact KR _ _ _ _ Y (dk T_X6_fail 7 rfl)
def f_X6_fail (x1 : Int32) (x2 : Int32) (σ : St) : Option (Int32 × St) := bzW (f_X6_fail_0 x1 x2 σ)
set_option maxHeartbeats 4000000 in
set_option maxRecDepth 100000 in
theorem c_X6_fail {l : Launch} {g : Geo} (x1 : Int32) (x2 : Int32) (σ : St) {w : Int32 × St} (h : f_X6_fail x1 x2 σ = some w) : CtI l yX6_fail cX6_fail 3 (some .boolean) (rmm 0 0) g [.ref (g.2.2 (99)), .int (x1), .int (x2)] σ w.1 w.2 := by
  obtain ⟨h, hz⟩ := bzW_s h
  exact enI .boolean (by decide) rfl (bz_n hz) (Nat.le_of_ble_eq_true rfl) (fun p e s m args below meth c Q X Y ls hl KR => w_X6_fail_0 X x1 x2 σ KR Y hl h)
def I_X6_carryOutSheet : List (Nat × Instr × Nat) := [(0, .aload_n 0, 1), (1, .getfield 65, 3), (4, .invokestatic 110, 3), (7, .ifCond .ne 10, 3), (10, .aload_n 0, 1), (11, .iconst 4, 1), (12, .iconst 0, 1), (13, .invokevirtual 114, 3), (16, .ireturn, 1), (17, .aload_n 0, 1), (18, .getfield 68, 3), (21, .invokestatic 110, 3), (24, .ifCond .ne 10, 3), (27, .aload_n 0, 1), (28, .iconst 4, 1), (29, .iconst 1, 1), (30, .invokevirtual 114, 3), (33, .ireturn, 1), (34, .aload_n 1, 1), (35, .getfield 118, 3), (38, .invokevirtual 124, 3), (41, .ifCond .eq 11, 3), (44, .aload_n 0, 1), (45, .bipush 6, 2), (47, .iconst 0, 1), (48, .invokevirtual 114, 3), (51, .ireturn, 1), (52, .aload_n 1, 1), (53, .aload_n 0, 1), (54, .getfield 65, 3), (57, .aload_n 0, 1), (58, .getfield 68, 3), (61, .aload_n 0, 1), (62, .getfield 71, 3), (65, .iconst (-1), 1), (66, .invokevirtual 129, 3), (69, .pop, 1), (70, .iconst 1, 1), (71, .ireturn, 1)]
set_option maxRecDepth 100000 in
theorem T_X6_carryOutSheet : ∀ q ∈ I_X6_carryOutSheet, decode cX6_carryOutSheet q.1 = .ok (q.2.1, q.2.2) := by decide +kernel
def f_X6_carryOutSheet_0 (t1 : Nat) (σ : St) : Option (Int32 × St) :=
  (f_X10_isSheetSide (σ 99 6)).bind fun q1 => if q1 = 0 then (f_X6_fail 4 0 σ).bind fun q10 => some (q10.1, q10.2) else (f_X10_isSheetSide (σ 99 7)).bind fun q3 => if q3 = 0 then (f_X6_fail 4 1 σ).bind fun q9 => some (q9.1, q9.2) else (f_X9_isFull (t1 + 1) σ).bind fun q5 => if q5 = 0 then (f_X8_createSheet t1 (σ 99 6) (σ 99 7) (σ 99 8) (-1) σ).bind fun q7 => some (1, q7.2) else (f_X6_fail 6 0 σ).bind fun q8 => some (q8.1, q8.2)
set_option maxHeartbeats 4000000 in
set_option maxRecDepth 100000 in
theorem w_X6_carryOutSheet_0 (X : Cx g RX6 cX6_carryOutSheet 2 (some .boolean) p s m args meth c) (t1 : Nat) (hk1 : kd t1 = 9) (σ : St) {w : Int32 × St} (KR : ∀ (H : Heap) (locs : List Loc) (ls : Array Slot) (pc : Nat), Wd g s w.2 H locs → decode cX6_carryOutSheet pc = .ok (.ireturn, 1) → W p l e (rmm 3 73) s m args below meth c H locs 0 0 Q (F0 m pc ls [.int (w.1)])) {H : Heap} {locs : List Loc} {ls : Array Slot} (Y : Wd g s σ H locs) (hl : lv_has ls 2 [(0, .ref (g.2.2 (99))), (1, .ref (g.2.2 (t1)))]) (h : f_X6_carryOutSheet_0 t1 σ = some w) : W p l e (rmm 3 73) s m args below meth c H locs 0 0 Q (F0 m 0 ls []) := by
  unfold f_X6_carryOutSheet_0 at h
  refine lv_aload_n X.1 X.2.1 (dk T_X6_carryOutSheet 0 rfl) rfl (lv_at hl 0 rfl) ?_
  refine gg X Y fl_X6_65 rfl rfl (dk T_X6_carryOutSheet 1 rfl) ?_
  obtain ⟨q1, hq1, h⟩ := bs h
  refine gsIN (rest := []) X Y (c_X10_isSheetSide (σ 99 6) σ hq1) cb_X6_110 hl.1 rfl rfl (Nat.le_of_ble_eq_true rfl) ⟨Nat.le_of_ble_eq_true rfl, Nat.le_of_ble_eq_true rfl⟩ (dk T_X6_carryOutSheet 2 rfl) (fun H locs Y => ?_)
  refine lv_if_ne (tgt := 17) X.1 X.2.1 (dk T_X6_carryOutSheet 3 rfl) rfl (fun c2 => ?_) (fun c2 => ?_)
  · replace h := ineg c2 h
    refine lv_aload_n X.1 X.2.1 (dk T_X6_carryOutSheet 9 rfl) rfl (lv_at hl 0 rfl) ?_
    refine gg X Y fl_X6_68 rfl rfl (dk T_X6_carryOutSheet 10 rfl) ?_
    obtain ⟨q3, hq3, h⟩ := bs h
    refine gsIN (rest := []) X Y (c_X10_isSheetSide (σ 99 7) σ hq3) cb_X6_110 hl.1 rfl rfl (Nat.le_of_ble_eq_true rfl) ⟨Nat.le_of_ble_eq_true rfl, Nat.le_of_ble_eq_true rfl⟩ (dk T_X6_carryOutSheet 11 rfl) (fun H locs Y => ?_)
    refine lv_if_ne (tgt := 34) X.1 X.2.1 (dk T_X6_carryOutSheet 12 rfl) rfl (fun c4 => ?_) (fun c4 => ?_)
    · replace h := ineg c4 h
      refine lv_aload_n X.1 X.2.1 (dk T_X6_carryOutSheet 18 rfl) rfl (lv_at hl 1 rfl) ?_
      refine ggN X Y fl_X6_118 hk1 rfl (dk T_X6_carryOutSheet 19 rfl) ?_
      obtain ⟨q5, hq5, h⟩ := bs h
      refine gvI (rest := []) X Y (c_X9_isFull (t1 + 1) (ks1 hk1) σ hq5) cb_X6_124 (ks1 hk1) hl.1 rfl rfl (Nat.le_of_ble_eq_true rfl) ⟨Nat.le_of_ble_eq_true rfl, Nat.le_of_ble_eq_true rfl⟩ (dk T_X6_carryOutSheet 20 rfl) (fun H locs Y => ?_)
      refine lv_if_eq (tgt := 52) X.1 X.2.1 (dk T_X6_carryOutSheet 21 rfl) rfl (fun c6 => ?_) (fun c6 => ?_)
      · replace h := ipos c6 h
        refine lv_aload_n X.1 X.2.1 (dk T_X6_carryOutSheet 27 rfl) rfl (lv_at hl 1 rfl) ?_
        refine lv_aload_n X.1 X.2.1 (dk T_X6_carryOutSheet 28 rfl) rfl (lv_at hl 0 rfl) ?_
        refine gg X Y fl_X6_65 rfl rfl (dk T_X6_carryOutSheet 29 rfl) ?_
        refine lv_aload_n X.1 X.2.1 (dk T_X6_carryOutSheet 30 rfl) rfl (lv_at hl 0 rfl) ?_
        refine gg X Y fl_X6_68 rfl rfl (dk T_X6_carryOutSheet 31 rfl) ?_
        refine lv_aload_n X.1 X.2.1 (dk T_X6_carryOutSheet 32 rfl) rfl (lv_at hl 0 rfl) ?_
        refine gg X Y fl_X6_71 rfl rfl (dk T_X6_carryOutSheet 33 rfl) ?_
        refine lv_iconst (v := (-1)) X.1 X.2.1 (dk T_X6_carryOutSheet 34 rfl) ic_m1 ?_
        obtain ⟨q7, hq7, h⟩ := bs h
        refine gvI (rest := []) X Y (c_X8_createSheet t1 hk1 (σ 99 6) (σ 99 7) (σ 99 8) (-1) σ hq7) cb_X6_129 hk1 hl.1 rfl rfl (Nat.le_of_ble_eq_true rfl) ⟨Nat.le_of_ble_eq_true rfl, Nat.le_of_ble_eq_true rfl⟩ (dk T_X6_carryOutSheet 35 rfl) (fun H locs Y => ?_)
        refine lv_pop X.1 X.2.1 (dk T_X6_carryOutSheet 36 rfl) rfl ?_
        refine lv_iconst (v := 1) X.1 X.2.1 (dk T_X6_carryOutSheet 37 rfl) ic_1 ?_
        obtain rfl := Option.some.inj h
        exact KR _ _ _ _ Y (dk T_X6_carryOutSheet 38 rfl)
      · replace h := ineg c6 h
        refine lv_aload_n X.1 X.2.1 (dk T_X6_carryOutSheet 22 rfl) rfl (lv_at hl 0 rfl) ?_
        refine lv_bipush (v := 6) X.1 X.2.1 (dk T_X6_carryOutSheet 23 rfl) bp_6 ?_
        refine lv_iconst (v := 0) X.1 X.2.1 (dk T_X6_carryOutSheet 24 rfl) ic_0 ?_
        obtain ⟨q8, hq8, h⟩ := bs h
        refine gvI (rest := []) X Y (c_X6_fail 6 0 σ hq8) cb_X6_114 rfl hl.1 rfl rfl (Nat.le_of_ble_eq_true rfl) ⟨Nat.le_of_ble_eq_true rfl, Nat.le_of_ble_eq_true rfl⟩ (dk T_X6_carryOutSheet 25 rfl) (fun H locs Y => ?_)
        obtain rfl := Option.some.inj h
        exact KR _ _ _ _ Y (dk T_X6_carryOutSheet 26 rfl)
    · replace h := ipos c4 h
      refine lv_aload_n X.1 X.2.1 (dk T_X6_carryOutSheet 13 rfl) rfl (lv_at hl 0 rfl) ?_
      refine lv_iconst (v := 4) X.1 X.2.1 (dk T_X6_carryOutSheet 14 rfl) ic_4 ?_
      refine lv_iconst (v := 1) X.1 X.2.1 (dk T_X6_carryOutSheet 15 rfl) ic_1 ?_
      obtain ⟨q9, hq9, h⟩ := bs h
      refine gvI (rest := []) X Y (c_X6_fail 4 1 σ hq9) cb_X6_114 rfl hl.1 rfl rfl (Nat.le_of_ble_eq_true rfl) ⟨Nat.le_of_ble_eq_true rfl, Nat.le_of_ble_eq_true rfl⟩ (dk T_X6_carryOutSheet 16 rfl) (fun H locs Y => ?_)
      obtain rfl := Option.some.inj h
      exact KR _ _ _ _ Y (dk T_X6_carryOutSheet 17 rfl)
  · replace h := ipos c2 h
    refine lv_aload_n X.1 X.2.1 (dk T_X6_carryOutSheet 4 rfl) rfl (lv_at hl 0 rfl) ?_
    refine lv_iconst (v := 4) X.1 X.2.1 (dk T_X6_carryOutSheet 5 rfl) ic_4 ?_
    refine lv_iconst (v := 0) X.1 X.2.1 (dk T_X6_carryOutSheet 6 rfl) ic_0 ?_
    obtain ⟨q10, hq10, h⟩ := bs h
    refine gvI (rest := []) X Y (c_X6_fail 4 0 σ hq10) cb_X6_114 rfl hl.1 rfl rfl (Nat.le_of_ble_eq_true rfl) ⟨Nat.le_of_ble_eq_true rfl, Nat.le_of_ble_eq_true rfl⟩ (dk T_X6_carryOutSheet 7 rfl) (fun H locs Y => ?_)
    obtain rfl := Option.some.inj h
    exact KR _ _ _ _ Y (dk T_X6_carryOutSheet 8 rfl)
def f_X6_carryOutSheet (t1 : Nat) (σ : St) : Option (Int32 × St) := bzW (f_X6_carryOutSheet_0 t1 σ)
set_option maxHeartbeats 4000000 in
set_option maxRecDepth 100000 in
theorem c_X6_carryOutSheet {l : Launch} {g : Geo} (t1 : Nat) (hk1 : kd t1 = 9) (σ : St) {w : Int32 × St} (h : f_X6_carryOutSheet t1 σ = some w) : CtI l yX6_carryOutSheet cX6_carryOutSheet 2 (some .boolean) (rmm 3 73) g [.ref (g.2.2 (99)), .ref (g.2.2 (t1))] σ w.1 w.2 := by
  obtain ⟨h, hz⟩ := bzW_s h
  exact enI .boolean (by decide) rfl (bz_n hz) (Nat.le_of_ble_eq_true rfl) (fun p e s m args below meth c Q X Y ls hl KR => w_X6_carryOutSheet_0 X t1 hk1 σ KR Y hl h)
def I_X6_carryOutShape : List (Nat × Instr × Nat) := [(0, .aload_n 0, 1), (1, .getfield 65, 3), (4, .iconst 2, 1), (5, .if_icmp .le 10, 3), (8, .aload_n 0, 1), (9, .iconst 4, 1), (10, .iconst 0, 1), (11, .invokevirtual 114, 3), (14, .ireturn, 1), (15, .aload_n 0, 1), (16, .getfield 89, 3), (19, .ifCond .eq 21, 3), (22, .aload_n 0, 1), (23, .getfield 80, 3), (26, .aload_n 0, 1), (27, .getfield 83, 3), (30, .aload_n 0, 1), (31, .getfield 86, 3), (34, .invokestatic 133, 3), (37, .ifCond .ne 10, 3), (40, .aload_n 0, 1), (41, .iconst 5, 1), (42, .iconst 0, 1), (43, .invokevirtual 114, 3), (46, .ireturn, 1), (47, .aload_n 1, 1), (48, .getfield 139, 3), (51, .invokevirtual 124, 3), (54, .ifCond .eq 11, 3), (57, .aload_n 0, 1), (58, .bipush 6, 2), (60, .iconst 0, 1), (61, .invokevirtual 114, 3), (64, .ireturn, 1), (65, .aload_n 1, 1), (66, .aload_n 0, 1), (67, .getfield 80, 3), (70, .aload_n 0, 1), (71, .getfield 83, 3), (74, .aload_n 0, 1), (75, .getfield 86, 3), (78, .aload_n 0, 1), (79, .getfield 65, 3), (82, .aload_n 0, 1), (83, .getfield 68, 3), (86, .invokevirtual 142, 3), (89, .pop, 1), (90, .iconst 1, 1), (91, .ireturn, 1)]
set_option maxRecDepth 100000 in
theorem T_X6_carryOutShape : ∀ q ∈ I_X6_carryOutShape, decode cX6_carryOutShape q.1 = .ok (q.2.1, q.2.2) := by decide +kernel
def f_X6_carryOutShape_j40 (t1 : Nat) (σ : St) : Option (Int32 × St) :=
  (f_X6_fail 5 0 σ).bind fun q3 => some (q3.1, q3.2)
set_option maxHeartbeats 4000000 in
set_option maxRecDepth 100000 in
theorem w_X6_carryOutShape_j40 (X : Cx g RX6 cX6_carryOutShape 2 (some .boolean) p s m args meth c) (t1 : Nat) (hk1 : kd t1 = 9) (σ : St) {w : Int32 × St} (KR : ∀ (H : Heap) (locs : List Loc) (ls : Array Slot) (pc : Nat), Wd g s w.2 H locs → decode cX6_carryOutShape pc = .ok (.ireturn, 1) → W p l e (rmm 3 77) s m args below meth c H locs 0 0 Q (F0 m pc ls [.int (w.1)])) {H : Heap} {locs : List Loc} {ls : Array Slot} (Y : Wd g s σ H locs) (hl : lv_has ls 2 [(0, .ref (g.2.2 (99)))]) (h : f_X6_carryOutShape_j40 t1 σ = some w) : W p l e (rmm 3 77) s m args below meth c H locs 0 0 Q (F0 m 40 ls []) := by
  unfold f_X6_carryOutShape_j40 at h
  refine lv_aload_n X.1 X.2.1 (dk T_X6_carryOutShape 20 rfl) rfl (lv_at hl 0 rfl) ?_
  refine lv_iconst (v := 5) X.1 X.2.1 (dk T_X6_carryOutShape 21 rfl) ic_5 ?_
  refine lv_iconst (v := 0) X.1 X.2.1 (dk T_X6_carryOutShape 22 rfl) ic_0 ?_
  obtain ⟨q3, hq3, h⟩ := bs h
  refine gvI (rest := []) X Y (c_X6_fail 5 0 σ hq3) cb_X6_114 rfl hl.1 rfl rfl (Nat.le_of_ble_eq_true rfl) ⟨Nat.le_of_ble_eq_true rfl, Nat.le_of_ble_eq_true rfl⟩ (dk T_X6_carryOutShape 23 rfl) (fun H locs Y => ?_)
  obtain rfl := Option.some.inj h
  exact KR _ _ _ _ Y (dk T_X6_carryOutShape 24 rfl)
def f_X6_carryOutShape_0 (t1 : Nat) (σ : St) : Option (Int32 × St) :=
  if (σ 99 6) ≤ 2 then if (σ 99 12) = 0 then f_X6_carryOutShape_j40 t1 σ else (f_X3_isShape (σ 99 9) (σ 99 10) (σ 99 11)).bind fun q4 => if q4 = 0 then f_X6_carryOutShape_j40 t1 σ else (f_X9_isFull (t1 + 3) σ).bind fun q6 => if q6 = 0 then (f_X8_createShape t1 (σ 99 9) (σ 99 10) (σ 99 11) (σ 99 6) (σ 99 7) σ).bind fun q8 => some (1, q8.2) else (f_X6_fail 6 0 σ).bind fun q9 => some (q9.1, q9.2) else (f_X6_fail 4 0 σ).bind fun q10 => some (q10.1, q10.2)
set_option maxHeartbeats 4000000 in
set_option maxRecDepth 100000 in
theorem w_X6_carryOutShape_0 (X : Cx g RX6 cX6_carryOutShape 2 (some .boolean) p s m args meth c) (t1 : Nat) (hk1 : kd t1 = 9) (σ : St) {w : Int32 × St} (KR : ∀ (H : Heap) (locs : List Loc) (ls : Array Slot) (pc : Nat), Wd g s w.2 H locs → decode cX6_carryOutShape pc = .ok (.ireturn, 1) → W p l e (rmm 3 77) s m args below meth c H locs 0 0 Q (F0 m pc ls [.int (w.1)])) {H : Heap} {locs : List Loc} {ls : Array Slot} (Y : Wd g s σ H locs) (hl : lv_has ls 2 [(0, .ref (g.2.2 (99))), (1, .ref (g.2.2 (t1)))]) (h : f_X6_carryOutShape_0 t1 σ = some w) : W p l e (rmm 3 77) s m args below meth c H locs 0 0 Q (F0 m 0 ls []) := by
  unfold f_X6_carryOutShape_0 at h
  refine lv_aload_n X.1 X.2.1 (dk T_X6_carryOutShape 0 rfl) rfl (lv_at hl 0 rfl) ?_
  refine gg X Y fl_X6_65 rfl rfl (dk T_X6_carryOutShape 1 rfl) ?_
  refine lv_iconst (v := 2) X.1 X.2.1 (dk T_X6_carryOutShape 2 rfl) ic_2 ?_
  refine lv_icmp_le (tgt := 15) X.1 X.2.1 (dk T_X6_carryOutShape 3 rfl) rfl (fun c1 => ?_) (fun c1 => ?_)
  · replace h := ipos c1 h
    refine lv_aload_n X.1 X.2.1 (dk T_X6_carryOutShape 9 rfl) rfl (lv_at hl 0 rfl) ?_
    refine gg X Y fl_X6_89 rfl rfl (dk T_X6_carryOutShape 10 rfl) ?_
    refine lv_if_eq (tgt := 40) X.1 X.2.1 (dk T_X6_carryOutShape 11 rfl) rfl (fun c2 => ?_) (fun c2 => ?_)
    · replace h := ipos c2 h
      exact w_X6_carryOutShape_j40 X t1 hk1 σ KR Y (lv_sub hl [0] rfl) h
    · replace h := ineg c2 h
      refine lv_aload_n X.1 X.2.1 (dk T_X6_carryOutShape 12 rfl) rfl (lv_at hl 0 rfl) ?_
      refine gg X Y fl_X6_80 rfl rfl (dk T_X6_carryOutShape 13 rfl) ?_
      refine lv_aload_n X.1 X.2.1 (dk T_X6_carryOutShape 14 rfl) rfl (lv_at hl 0 rfl) ?_
      refine gg X Y fl_X6_83 rfl rfl (dk T_X6_carryOutShape 15 rfl) ?_
      refine lv_aload_n X.1 X.2.1 (dk T_X6_carryOutShape 16 rfl) rfl (lv_at hl 0 rfl) ?_
      refine gg X Y fl_X6_86 rfl rfl (dk T_X6_carryOutShape 17 rfl) ?_
      obtain ⟨q4, hq4, h⟩ := bs h
      refine gsI (rest := []) X Y (c_X3_isShape (σ 99 9) (σ 99 10) (σ 99 11) σ hq4) cb_X6_133 hl.1 rfl rfl (Nat.le_of_ble_eq_true rfl) ⟨Nat.le_of_ble_eq_true rfl, Nat.le_of_ble_eq_true rfl⟩ (dk T_X6_carryOutShape 18 rfl) (fun H locs Y => ?_)
      refine lv_if_ne (tgt := 47) X.1 X.2.1 (dk T_X6_carryOutShape 19 rfl) rfl (fun c5 => ?_) (fun c5 => ?_)
      · replace h := ineg c5 h
        refine lv_aload_n X.1 X.2.1 (dk T_X6_carryOutShape 25 rfl) rfl (lv_at hl 1 rfl) ?_
        refine ggN X Y fl_X6_139 hk1 rfl (dk T_X6_carryOutShape 26 rfl) ?_
        obtain ⟨q6, hq6, h⟩ := bs h
        refine gvI (rest := []) X Y (c_X9_isFull (t1 + 3) (ks3 hk1) σ hq6) cb_X6_124 (ks3 hk1) hl.1 rfl rfl (Nat.le_of_ble_eq_true rfl) ⟨Nat.le_of_ble_eq_true rfl, Nat.le_of_ble_eq_true rfl⟩ (dk T_X6_carryOutShape 27 rfl) (fun H locs Y => ?_)
        refine lv_if_eq (tgt := 65) X.1 X.2.1 (dk T_X6_carryOutShape 28 rfl) rfl (fun c7 => ?_) (fun c7 => ?_)
        · replace h := ipos c7 h
          refine lv_aload_n X.1 X.2.1 (dk T_X6_carryOutShape 34 rfl) rfl (lv_at hl 1 rfl) ?_
          refine lv_aload_n X.1 X.2.1 (dk T_X6_carryOutShape 35 rfl) rfl (lv_at hl 0 rfl) ?_
          refine gg X Y fl_X6_80 rfl rfl (dk T_X6_carryOutShape 36 rfl) ?_
          refine lv_aload_n X.1 X.2.1 (dk T_X6_carryOutShape 37 rfl) rfl (lv_at hl 0 rfl) ?_
          refine gg X Y fl_X6_83 rfl rfl (dk T_X6_carryOutShape 38 rfl) ?_
          refine lv_aload_n X.1 X.2.1 (dk T_X6_carryOutShape 39 rfl) rfl (lv_at hl 0 rfl) ?_
          refine gg X Y fl_X6_86 rfl rfl (dk T_X6_carryOutShape 40 rfl) ?_
          refine lv_aload_n X.1 X.2.1 (dk T_X6_carryOutShape 41 rfl) rfl (lv_at hl 0 rfl) ?_
          refine gg X Y fl_X6_65 rfl rfl (dk T_X6_carryOutShape 42 rfl) ?_
          refine lv_aload_n X.1 X.2.1 (dk T_X6_carryOutShape 43 rfl) rfl (lv_at hl 0 rfl) ?_
          refine gg X Y fl_X6_68 rfl rfl (dk T_X6_carryOutShape 44 rfl) ?_
          obtain ⟨q8, hq8, h⟩ := bs h
          refine gvI (rest := []) X Y (c_X8_createShape t1 hk1 (σ 99 9) (σ 99 10) (σ 99 11) (σ 99 6) (σ 99 7) σ hq8) cb_X6_142 hk1 hl.1 rfl rfl (Nat.le_of_ble_eq_true rfl) ⟨Nat.le_of_ble_eq_true rfl, Nat.le_of_ble_eq_true rfl⟩ (dk T_X6_carryOutShape 45 rfl) (fun H locs Y => ?_)
          refine lv_pop X.1 X.2.1 (dk T_X6_carryOutShape 46 rfl) rfl ?_
          refine lv_iconst (v := 1) X.1 X.2.1 (dk T_X6_carryOutShape 47 rfl) ic_1 ?_
          obtain rfl := Option.some.inj h
          exact KR _ _ _ _ Y (dk T_X6_carryOutShape 48 rfl)
        · replace h := ineg c7 h
          refine lv_aload_n X.1 X.2.1 (dk T_X6_carryOutShape 29 rfl) rfl (lv_at hl 0 rfl) ?_
          refine lv_bipush (v := 6) X.1 X.2.1 (dk T_X6_carryOutShape 30 rfl) bp_6 ?_
          refine lv_iconst (v := 0) X.1 X.2.1 (dk T_X6_carryOutShape 31 rfl) ic_0 ?_
          obtain ⟨q9, hq9, h⟩ := bs h
          refine gvI (rest := []) X Y (c_X6_fail 6 0 σ hq9) cb_X6_114 rfl hl.1 rfl rfl (Nat.le_of_ble_eq_true rfl) ⟨Nat.le_of_ble_eq_true rfl, Nat.le_of_ble_eq_true rfl⟩ (dk T_X6_carryOutShape 32 rfl) (fun H locs Y => ?_)
          obtain rfl := Option.some.inj h
          exact KR _ _ _ _ Y (dk T_X6_carryOutShape 33 rfl)
      · replace h := ipos c5 h
        exact w_X6_carryOutShape_j40 X t1 hk1 σ KR Y (lv_sub hl [0] rfl) h
  · replace h := ineg c1 h
    refine lv_aload_n X.1 X.2.1 (dk T_X6_carryOutShape 4 rfl) rfl (lv_at hl 0 rfl) ?_
    refine lv_iconst (v := 4) X.1 X.2.1 (dk T_X6_carryOutShape 5 rfl) ic_4 ?_
    refine lv_iconst (v := 0) X.1 X.2.1 (dk T_X6_carryOutShape 6 rfl) ic_0 ?_
    obtain ⟨q10, hq10, h⟩ := bs h
    refine gvI (rest := []) X Y (c_X6_fail 4 0 σ hq10) cb_X6_114 rfl hl.1 rfl rfl (Nat.le_of_ble_eq_true rfl) ⟨Nat.le_of_ble_eq_true rfl, Nat.le_of_ble_eq_true rfl⟩ (dk T_X6_carryOutShape 7 rfl) (fun H locs Y => ?_)
    obtain rfl := Option.some.inj h
    exact KR _ _ _ _ Y (dk T_X6_carryOutShape 8 rfl)
def f_X6_carryOutShape (t1 : Nat) (σ : St) : Option (Int32 × St) := bzW (f_X6_carryOutShape_0 t1 σ)
set_option maxHeartbeats 4000000 in
set_option maxRecDepth 100000 in
theorem c_X6_carryOutShape {l : Launch} {g : Geo} (t1 : Nat) (hk1 : kd t1 = 9) (σ : St) {w : Int32 × St} (h : f_X6_carryOutShape t1 σ = some w) : CtI l yX6_carryOutShape cX6_carryOutShape 2 (some .boolean) (rmm 3 77) g [.ref (g.2.2 (99)), .ref (g.2.2 (t1))] σ w.1 w.2 := by
  obtain ⟨h, hz⟩ := bzW_s h
  exact enI .boolean (by decide) rfl (bz_n hz) (Nat.le_of_ble_eq_true rfl) (fun p e s m args below meth c Q X Y ls hl KR => w_X6_carryOutShape_0 X t1 hk1 σ KR Y hl h)
def I_X6_carryOutSpoil : List (Nat × Instr × Nat) := [(0, .aload_n 1, 1), (1, .getfield 118, 3), (4, .aload_n 0, 1), (5, .getfield 65, 3), (8, .invokevirtual 146, 3), (11, .ifCond .ne 11, 3), (14, .aload_n 0, 1), (15, .bipush 7, 2), (17, .iconst 0, 1), (18, .invokevirtual 114, 3), (21, .ireturn, 1), (22, .aload_n 0, 1), (23, .getfield 68, 3), (26, .aload_n 1, 1), (27, .aload_n 0, 1), (28, .getfield 65, 3), (31, .invokevirtual 149, 3), (34, .if_icmp .ge 19, 3), (37, .aload_n 1, 1), (38, .aload_n 0, 1), (39, .getfield 65, 3), (42, .aload_n 0, 1), (43, .getfield 68, 3), (46, .invokevirtual 153, 3), (49, .iconst (-1), 1), (50, .if_icmp .eq 11, 3), (53, .aload_n 0, 1), (54, .bipush 7, 2), (56, .iconst 1, 1), (57, .invokevirtual 114, 3), (60, .ireturn, 1), (61, .aload_n 1, 1), (62, .aload_n 0, 1), (63, .getfield 65, 3), (66, .aload_n 0, 1), (67, .getfield 68, 3), (70, .bipush (-2), 2), (72, .invokevirtual 157, 3), (75, .iconst 1, 1), (76, .ireturn, 1)]
set_option maxRecDepth 100000 in
theorem T_X6_carryOutSpoil : ∀ q ∈ I_X6_carryOutSpoil, decode cX6_carryOutSpoil q.1 = .ok (q.2.1, q.2.2) := by decide +kernel
def f_X6_carryOutSpoil_j53 (t1 : Nat) (σ : St) : Option (Int32 × St) :=
  (f_X6_fail 7 1 σ).bind fun q5 => some (q5.1, q5.2)
set_option maxHeartbeats 4000000 in
set_option maxRecDepth 100000 in
theorem w_X6_carryOutSpoil_j53 (X : Cx g RX6 cX6_carryOutSpoil 2 (some .boolean) p s m args meth c) (t1 : Nat) (hk1 : kd t1 = 9) (σ : St) {w : Int32 × St} (KR : ∀ (H : Heap) (locs : List Loc) (ls : Array Slot) (pc : Nat), Wd g s w.2 H locs → decode cX6_carryOutSpoil pc = .ok (.ireturn, 1) → W p l e (rmm 3 65) s m args below meth c H locs 0 0 Q (F0 m pc ls [.int (w.1)])) {H : Heap} {locs : List Loc} {ls : Array Slot} (Y : Wd g s σ H locs) (hl : lv_has ls 2 [(0, .ref (g.2.2 (99)))]) (h : f_X6_carryOutSpoil_j53 t1 σ = some w) : W p l e (rmm 3 65) s m args below meth c H locs 0 0 Q (F0 m 53 ls []) := by
  unfold f_X6_carryOutSpoil_j53 at h
  refine lv_aload_n X.1 X.2.1 (dk T_X6_carryOutSpoil 26 rfl) rfl (lv_at hl 0 rfl) ?_
  refine lv_bipush (v := 7) X.1 X.2.1 (dk T_X6_carryOutSpoil 27 rfl) bp_7 ?_
  refine lv_iconst (v := 1) X.1 X.2.1 (dk T_X6_carryOutSpoil 28 rfl) ic_1 ?_
  obtain ⟨q5, hq5, h⟩ := bs h
  refine gvI (rest := []) X Y (c_X6_fail 7 1 σ hq5) cb_X6_114 rfl hl.1 rfl rfl (Nat.le_of_ble_eq_true rfl) ⟨Nat.le_of_ble_eq_true rfl, Nat.le_of_ble_eq_true rfl⟩ (dk T_X6_carryOutSpoil 29 rfl) (fun H locs Y => ?_)
  obtain rfl := Option.some.inj h
  exact KR _ _ _ _ Y (dk T_X6_carryOutSpoil 30 rfl)
def f_X6_carryOutSpoil_0 (t1 : Nat) (σ : St) : Option (Int32 × St) :=
  (f_X9_has (t1 + 1) (σ 99 6) σ).bind fun q1 => if q1 = 0 then (f_X6_fail 7 0 σ).bind fun q9 => some (q9.1, q9.2) else (f_X8_cellsOf t1 (σ 99 6) σ).bind fun q3 => if q3 ≤ (σ 99 7) then f_X6_carryOutSpoil_j53 t1 σ else (f_X8_onCell t1 (σ 99 6) (σ 99 7) σ).bind fun q6 => if q6 = (-1) then (f_X8_setCell t1 (σ 99 6) (σ 99 7) (-2) σ).bind fun q8 => some (1, q8) else f_X6_carryOutSpoil_j53 t1 σ
set_option maxHeartbeats 4000000 in
set_option maxRecDepth 100000 in
theorem w_X6_carryOutSpoil_0 (X : Cx g RX6 cX6_carryOutSpoil 2 (some .boolean) p s m args meth c) (t1 : Nat) (hk1 : kd t1 = 9) (σ : St) {w : Int32 × St} (KR : ∀ (H : Heap) (locs : List Loc) (ls : Array Slot) (pc : Nat), Wd g s w.2 H locs → decode cX6_carryOutSpoil pc = .ok (.ireturn, 1) → W p l e (rmm 3 65) s m args below meth c H locs 0 0 Q (F0 m pc ls [.int (w.1)])) {H : Heap} {locs : List Loc} {ls : Array Slot} (Y : Wd g s σ H locs) (hl : lv_has ls 2 [(0, .ref (g.2.2 (99))), (1, .ref (g.2.2 (t1)))]) (h : f_X6_carryOutSpoil_0 t1 σ = some w) : W p l e (rmm 3 65) s m args below meth c H locs 0 0 Q (F0 m 0 ls []) := by
  unfold f_X6_carryOutSpoil_0 at h
  refine lv_aload_n X.1 X.2.1 (dk T_X6_carryOutSpoil 0 rfl) rfl (lv_at hl 1 rfl) ?_
  refine ggN X Y fl_X6_118 hk1 rfl (dk T_X6_carryOutSpoil 1 rfl) ?_
  refine lv_aload_n X.1 X.2.1 (dk T_X6_carryOutSpoil 2 rfl) rfl (lv_at hl 0 rfl) ?_
  refine gg X Y fl_X6_65 rfl rfl (dk T_X6_carryOutSpoil 3 rfl) ?_
  obtain ⟨q1, hq1, h⟩ := bs h
  refine gvI (rest := []) X Y (c_X9_has (t1 + 1) (ks1 hk1) (σ 99 6) σ hq1) cb_X6_146 (ks1 hk1) hl.1 rfl rfl (Nat.le_of_ble_eq_true rfl) ⟨Nat.le_of_ble_eq_true rfl, Nat.le_of_ble_eq_true rfl⟩ (dk T_X6_carryOutSpoil 4 rfl) (fun H locs Y => ?_)
  refine lv_if_ne (tgt := 22) X.1 X.2.1 (dk T_X6_carryOutSpoil 5 rfl) rfl (fun c2 => ?_) (fun c2 => ?_)
  · replace h := ineg c2 h
    refine lv_aload_n X.1 X.2.1 (dk T_X6_carryOutSpoil 11 rfl) rfl (lv_at hl 0 rfl) ?_
    refine gg X Y fl_X6_68 rfl rfl (dk T_X6_carryOutSpoil 12 rfl) ?_
    refine lv_aload_n X.1 X.2.1 (dk T_X6_carryOutSpoil 13 rfl) rfl (lv_at hl 1 rfl) ?_
    refine lv_aload_n X.1 X.2.1 (dk T_X6_carryOutSpoil 14 rfl) rfl (lv_at hl 0 rfl) ?_
    refine gg X Y fl_X6_65 rfl rfl (dk T_X6_carryOutSpoil 15 rfl) ?_
    obtain ⟨q3, hq3, h⟩ := bs h
    refine gvI (rest := [.int (σ 99 7)]) X Y (c_X8_cellsOf t1 hk1 (σ 99 6) σ hq3) cb_X6_149 hk1 hl.1 rfl rfl (Nat.le_of_ble_eq_true rfl) ⟨Nat.le_of_ble_eq_true rfl, Nat.le_of_ble_eq_true rfl⟩ (dk T_X6_carryOutSpoil 16 rfl) (fun H locs Y => ?_)
    refine lv_icmp_ge (tgt := 53) X.1 X.2.1 (dk T_X6_carryOutSpoil 17 rfl) rfl (fun c4 => ?_) (fun c4 => ?_)
    · replace h := ipos c4 h
      exact w_X6_carryOutSpoil_j53 X t1 hk1 σ KR Y (lv_sub hl [0] rfl) h
    · replace h := ineg c4 h
      refine lv_aload_n X.1 X.2.1 (dk T_X6_carryOutSpoil 18 rfl) rfl (lv_at hl 1 rfl) ?_
      refine lv_aload_n X.1 X.2.1 (dk T_X6_carryOutSpoil 19 rfl) rfl (lv_at hl 0 rfl) ?_
      refine gg X Y fl_X6_65 rfl rfl (dk T_X6_carryOutSpoil 20 rfl) ?_
      refine lv_aload_n X.1 X.2.1 (dk T_X6_carryOutSpoil 21 rfl) rfl (lv_at hl 0 rfl) ?_
      refine gg X Y fl_X6_68 rfl rfl (dk T_X6_carryOutSpoil 22 rfl) ?_
      obtain ⟨q6, hq6, h⟩ := bs h
      refine gvI (rest := []) X Y (c_X8_onCell t1 hk1 (σ 99 6) (σ 99 7) σ hq6) cb_X6_153 hk1 hl.1 rfl rfl (Nat.le_of_ble_eq_true rfl) ⟨Nat.le_of_ble_eq_true rfl, Nat.le_of_ble_eq_true rfl⟩ (dk T_X6_carryOutSpoil 23 rfl) (fun H locs Y => ?_)
      refine lv_iconst (v := (-1)) X.1 X.2.1 (dk T_X6_carryOutSpoil 24 rfl) ic_m1 ?_
      refine lv_icmp_eq (tgt := 61) X.1 X.2.1 (dk T_X6_carryOutSpoil 25 rfl) rfl (fun c7 => ?_) (fun c7 => ?_)
      · replace h := ipos c7 h
        refine lv_aload_n X.1 X.2.1 (dk T_X6_carryOutSpoil 31 rfl) rfl (lv_at hl 1 rfl) ?_
        refine lv_aload_n X.1 X.2.1 (dk T_X6_carryOutSpoil 32 rfl) rfl (lv_at hl 0 rfl) ?_
        refine gg X Y fl_X6_65 rfl rfl (dk T_X6_carryOutSpoil 33 rfl) ?_
        refine lv_aload_n X.1 X.2.1 (dk T_X6_carryOutSpoil 34 rfl) rfl (lv_at hl 0 rfl) ?_
        refine gg X Y fl_X6_68 rfl rfl (dk T_X6_carryOutSpoil 35 rfl) ?_
        refine lv_bipush (v := (-2)) X.1 X.2.1 (dk T_X6_carryOutSpoil 36 rfl) bp_m2 ?_
        obtain ⟨q8, hq8, h⟩ := bs h
        refine gvV (rest := []) X Y (c_X8_setCell t1 hk1 (σ 99 6) (σ 99 7) (-2) σ hq8) cb_X6_157 hk1 hl.1 rfl rfl (Nat.le_of_ble_eq_true rfl) ⟨Nat.le_of_ble_eq_true rfl, Nat.le_of_ble_eq_true rfl⟩ (dk T_X6_carryOutSpoil 37 rfl) (fun H locs Y => ?_)
        refine lv_iconst (v := 1) X.1 X.2.1 (dk T_X6_carryOutSpoil 38 rfl) ic_1 ?_
        obtain rfl := Option.some.inj h
        exact KR _ _ _ _ Y (dk T_X6_carryOutSpoil 39 rfl)
      · replace h := ineg c7 h
        exact w_X6_carryOutSpoil_j53 X t1 hk1 σ KR Y (lv_sub hl [0] rfl) h
  · replace h := ipos c2 h
    refine lv_aload_n X.1 X.2.1 (dk T_X6_carryOutSpoil 6 rfl) rfl (lv_at hl 0 rfl) ?_
    refine lv_bipush (v := 7) X.1 X.2.1 (dk T_X6_carryOutSpoil 7 rfl) bp_7 ?_
    refine lv_iconst (v := 0) X.1 X.2.1 (dk T_X6_carryOutSpoil 8 rfl) ic_0 ?_
    obtain ⟨q9, hq9, h⟩ := bs h
    refine gvI (rest := []) X Y (c_X6_fail 7 0 σ hq9) cb_X6_114 rfl hl.1 rfl rfl (Nat.le_of_ble_eq_true rfl) ⟨Nat.le_of_ble_eq_true rfl, Nat.le_of_ble_eq_true rfl⟩ (dk T_X6_carryOutSpoil 9 rfl) (fun H locs Y => ?_)
    obtain rfl := Option.some.inj h
    exact KR _ _ _ _ Y (dk T_X6_carryOutSpoil 10 rfl)
def f_X6_carryOutSpoil (t1 : Nat) (σ : St) : Option (Int32 × St) := bzW (f_X6_carryOutSpoil_0 t1 σ)
set_option maxHeartbeats 4000000 in
set_option maxRecDepth 100000 in
theorem c_X6_carryOutSpoil {l : Launch} {g : Geo} (t1 : Nat) (hk1 : kd t1 = 9) (σ : St) {w : Int32 × St} (h : f_X6_carryOutSpoil t1 σ = some w) : CtI l yX6_carryOutSpoil cX6_carryOutSpoil 2 (some .boolean) (rmm 3 65) g [.ref (g.2.2 (99)), .ref (g.2.2 (t1))] σ w.1 w.2 := by
  obtain ⟨h, hz⟩ := bzW_s h
  exact enI .boolean (by decide) rfl (bz_n hz) (Nat.le_of_ble_eq_true rfl) (fun p e s m args below meth c Q X Y ls hl KR => w_X6_carryOutSpoil_0 X t1 hk1 σ KR Y hl h)
def I_X6_carryOut : List (Nat × Instr × Nat) := [(0, .aload_n 0, 1), (1, .getfield 46, 3), (4, .bipush 115, 2), (6, .if_icmp .ne 9, 3), (9, .aload_n 0, 1), (10, .aload_n 1, 1), (11, .invokevirtual 100, 3), (14, .ireturn, 1), (15, .aload_n 0, 1), (16, .getfield 46, 3), (19, .bipush 112, 2), (21, .if_icmp .ne 11, 3), (24, .aload_n 0, 1), (25, .aload_n 1, 1), (26, .invokevirtual 104, 3), (29, .goto 8, 3), (32, .aload_n 0, 1), (33, .aload_n 1, 1), (34, .invokevirtual 107, 3), (37, .ireturn, 1)]
set_option maxRecDepth 100000 in
theorem T_X6_carryOut : ∀ q ∈ I_X6_carryOut, decode cX6_carryOut q.1 = .ok (q.2.1, q.2.2) := by decide +kernel
def f_X6_carryOut_0 (t1 : Nat) (σ : St) : Option (Int32 × St) :=
  if (σ 99 4) = 115 then (f_X6_carryOutSheet t1 σ).bind fun q5 => some (q5.1, q5.2) else if (σ 99 4) = 112 then (f_X6_carryOutShape t1 σ).bind fun q4 => some (q4.1, q4.2) else (f_X6_carryOutSpoil t1 σ).bind fun q3 => some (q3.1, q3.2)
set_option maxHeartbeats 4000000 in
set_option maxRecDepth 100000 in
theorem w_X6_carryOut_0 (X : Cx g RX6 cX6_carryOut 2 (some .boolean) p s m args meth c) (t1 : Nat) (hk1 : kd t1 = 9) (σ : St) {w : Int32 × St} (KR : ∀ (H : Heap) (locs : List Loc) (ls : Array Slot) (pc : Nat), Wd g s w.2 H locs → decode cX6_carryOut pc = .ok (.ireturn, 1) → W p l e (rmm 4 98) s m args below meth c H locs 0 0 Q (F0 m pc ls [.int (w.1)])) {H : Heap} {locs : List Loc} {ls : Array Slot} (Y : Wd g s σ H locs) (hl : lv_has ls 2 [(0, .ref (g.2.2 (99))), (1, .ref (g.2.2 (t1)))]) (h : f_X6_carryOut_0 t1 σ = some w) : W p l e (rmm 4 98) s m args below meth c H locs 0 0 Q (F0 m 0 ls []) := by
  unfold f_X6_carryOut_0 at h
  refine lv_aload_n X.1 X.2.1 (dk T_X6_carryOut 0 rfl) rfl (lv_at hl 0 rfl) ?_
  refine gg X Y fl_X6_46 rfl rfl (dk T_X6_carryOut 1 rfl) ?_
  refine lv_bipush (v := 115) X.1 X.2.1 (dk T_X6_carryOut 2 rfl) bp_115 ?_
  refine lv_icmp_ne (tgt := 15) X.1 X.2.1 (dk T_X6_carryOut 3 rfl) rfl (fun c1 => ?_) (fun c1 => ?_)
  · replace h := ineg c1 h
    refine lv_aload_n X.1 X.2.1 (dk T_X6_carryOut 8 rfl) rfl (lv_at hl 0 rfl) ?_
    refine gg X Y fl_X6_46 rfl rfl (dk T_X6_carryOut 9 rfl) ?_
    refine lv_bipush (v := 112) X.1 X.2.1 (dk T_X6_carryOut 10 rfl) bp_112 ?_
    refine lv_icmp_ne (tgt := 32) X.1 X.2.1 (dk T_X6_carryOut 11 rfl) rfl (fun c2 => ?_) (fun c2 => ?_)
    · replace h := ineg c2 h
      refine lv_aload_n X.1 X.2.1 (dk T_X6_carryOut 16 rfl) rfl (lv_at hl 0 rfl) ?_
      refine lv_aload_n X.1 X.2.1 (dk T_X6_carryOut 17 rfl) rfl (lv_at hl 1 rfl) ?_
      obtain ⟨q3, hq3, h⟩ := bs h
      refine gvI (rest := []) X Y (c_X6_carryOutSpoil t1 hk1 σ hq3) cb_X6_107 rfl hl.1 rfl rfl (Nat.le_of_ble_eq_true rfl) ⟨Nat.le_of_ble_eq_true rfl, Nat.le_of_ble_eq_true rfl⟩ (dk T_X6_carryOut 18 rfl) (fun H locs Y => ?_)
      obtain rfl := Option.some.inj h
      exact KR _ _ _ _ Y (dk T_X6_carryOut 19 rfl)
    · replace h := ipos c2 h
      refine lv_aload_n X.1 X.2.1 (dk T_X6_carryOut 12 rfl) rfl (lv_at hl 0 rfl) ?_
      refine lv_aload_n X.1 X.2.1 (dk T_X6_carryOut 13 rfl) rfl (lv_at hl 1 rfl) ?_
      obtain ⟨q4, hq4, h⟩ := bs h
      refine gvI (rest := []) X Y (c_X6_carryOutShape t1 hk1 σ hq4) cb_X6_104 rfl hl.1 rfl rfl (Nat.le_of_ble_eq_true rfl) ⟨Nat.le_of_ble_eq_true rfl, Nat.le_of_ble_eq_true rfl⟩ (dk T_X6_carryOut 14 rfl) (fun H locs Y => ?_)
      refine lv_goto (tgt := 37) X.1 X.2.1 (dk T_X6_carryOut 15 rfl) rfl ?_
      obtain rfl := Option.some.inj h
      exact KR _ _ _ _ Y (dk T_X6_carryOut 19 rfl)
  · replace h := ipos c1 h
    refine lv_aload_n X.1 X.2.1 (dk T_X6_carryOut 4 rfl) rfl (lv_at hl 0 rfl) ?_
    refine lv_aload_n X.1 X.2.1 (dk T_X6_carryOut 5 rfl) rfl (lv_at hl 1 rfl) ?_
    obtain ⟨q5, hq5, h⟩ := bs h
    refine gvI (rest := []) X Y (c_X6_carryOutSheet t1 hk1 σ hq5) cb_X6_100 rfl hl.1 rfl rfl (Nat.le_of_ble_eq_true rfl) ⟨Nat.le_of_ble_eq_true rfl, Nat.le_of_ble_eq_true rfl⟩ (dk T_X6_carryOut 6 rfl) (fun H locs Y => ?_)
    obtain rfl := Option.some.inj h
    exact KR _ _ _ _ Y (dk T_X6_carryOut 7 rfl)
def f_X6_carryOut (t1 : Nat) (σ : St) : Option (Int32 × St) := bzW (f_X6_carryOut_0 t1 σ)
set_option maxHeartbeats 4000000 in
set_option maxRecDepth 100000 in
theorem c_X6_carryOut {l : Launch} {g : Geo} (t1 : Nat) (hk1 : kd t1 = 9) (σ : St) {w : Int32 × St} (h : f_X6_carryOut t1 σ = some w) : CtI l yX6_carryOut cX6_carryOut 2 (some .boolean) (rmm 4 98) g [.ref (g.2.2 (99)), .ref (g.2.2 (t1))] σ w.1 w.2 := by
  obtain ⟨h, hz⟩ := bzW_s h
  exact enI .boolean (by decide) rfl (bz_n hz) (Nat.le_of_ble_eq_true rfl) (fun p e s m args below meth c Q X Y ls hl KR => w_X6_carryOut_0 X t1 hk1 σ KR Y hl h)
def I_X6_faultKind : List (Nat × Instr × Nat) := [(0, .aload_n 0, 1), (1, .getfield 25, 3), (4, .ireturn, 1)]
set_option maxRecDepth 100000 in
theorem T_X6_faultKind : ∀ q ∈ I_X6_faultKind, decode cX6_faultKind q.1 = .ok (q.2.1, q.2.2) := by decide +kernel
def f_X6_faultKind_0 (σ : St) : Option (Int32) :=
  some (σ 99 13)
set_option maxHeartbeats 4000000 in
set_option maxRecDepth 100000 in
theorem w_X6_faultKind_0 (X : Cx g RX6 cX6_faultKind 1 (some .int) p s m args meth c) (σ : St) {w : Int32} (KR : ∀ (H : Heap) (locs : List Loc) (ls : Array Slot) (pc : Nat), Wd g s σ H locs → decode cX6_faultKind pc = .ok (.ireturn, 1) → W p l e (rmm 0 0) s m args below meth c H locs 0 0 Q (F0 m pc ls [.int (w)])) {H : Heap} {locs : List Loc} {ls : Array Slot} (Y : Wd g s σ H locs) (hl : lv_has ls 1 [(0, .ref (g.2.2 (99)))]) (h : f_X6_faultKind_0 σ = some w) : W p l e (rmm 0 0) s m args below meth c H locs 0 0 Q (F0 m 0 ls []) := by
  unfold f_X6_faultKind_0 at h
  refine lv_aload_n X.1 X.2.1 (dk T_X6_faultKind 0 rfl) rfl (lv_at hl 0 rfl) ?_
  refine gg X Y fl_X6_25 rfl rfl (dk T_X6_faultKind 1 rfl) ?_
  obtain rfl := Option.some.inj h
  exact KR _ _ _ _ Y (dk T_X6_faultKind 2 rfl)
def f_X6_faultKind (σ : St) : Option (Int32) := f_X6_faultKind_0 σ
set_option maxHeartbeats 4000000 in
set_option maxRecDepth 100000 in
theorem c_X6_faultKind {l : Launch} {g : Geo} (σ : St) {w : Int32} (h : f_X6_faultKind σ = some w) : CtI l yX6_faultKind cX6_faultKind 1 (some .int) (rmm 0 0) g [.ref (g.2.2 (99))] σ w σ := enI .int (by decide) rfl rfl (Nat.le_of_ble_eq_true rfl) (fun p e s m args below meth c Q X Y ls hl KR => w_X6_faultKind_0 X σ KR Y hl h)
def I_X6_faultPlace : List (Nat × Instr × Nat) := [(0, .aload_n 0, 1), (1, .getfield 28, 3), (4, .ireturn, 1)]
set_option maxRecDepth 100000 in
theorem T_X6_faultPlace : ∀ q ∈ I_X6_faultPlace, decode cX6_faultPlace q.1 = .ok (q.2.1, q.2.2) := by decide +kernel
def f_X6_faultPlace_0 (σ : St) : Option (Int32) :=
  some (σ 99 14)
set_option maxHeartbeats 4000000 in
set_option maxRecDepth 100000 in
theorem w_X6_faultPlace_0 (X : Cx g RX6 cX6_faultPlace 1 (some .int) p s m args meth c) (σ : St) {w : Int32} (KR : ∀ (H : Heap) (locs : List Loc) (ls : Array Slot) (pc : Nat), Wd g s σ H locs → decode cX6_faultPlace pc = .ok (.ireturn, 1) → W p l e (rmm 0 0) s m args below meth c H locs 0 0 Q (F0 m pc ls [.int (w)])) {H : Heap} {locs : List Loc} {ls : Array Slot} (Y : Wd g s σ H locs) (hl : lv_has ls 1 [(0, .ref (g.2.2 (99)))]) (h : f_X6_faultPlace_0 σ = some w) : W p l e (rmm 0 0) s m args below meth c H locs 0 0 Q (F0 m 0 ls []) := by
  unfold f_X6_faultPlace_0 at h
  refine lv_aload_n X.1 X.2.1 (dk T_X6_faultPlace 0 rfl) rfl (lv_at hl 0 rfl) ?_
  refine gg X Y fl_X6_28 rfl rfl (dk T_X6_faultPlace 1 rfl) ?_
  obtain rfl := Option.some.inj h
  exact KR _ _ _ _ Y (dk T_X6_faultPlace 2 rfl)
def f_X6_faultPlace (σ : St) : Option (Int32) := f_X6_faultPlace_0 σ
set_option maxHeartbeats 4000000 in
set_option maxRecDepth 100000 in
theorem c_X6_faultPlace {l : Launch} {g : Geo} (σ : St) {w : Int32} (h : f_X6_faultPlace σ = some w) : CtI l yX6_faultPlace cX6_faultPlace 1 (some .int) (rmm 0 0) g [.ref (g.2.2 (99))] σ w σ := enI .int (by decide) rfl rfl (Nat.le_of_ble_eq_true rfl) (fun p e s m args below meth c Q X Y ls hl KR => w_X6_faultPlace_0 X σ KR Y hl h)
def I_X6_itemsBefore : List (Nat × Instr × Nat) := [(0, .aload_n 0, 1), (1, .getfield 22, 3), (4, .ireturn, 1)]
set_option maxRecDepth 100000 in
theorem T_X6_itemsBefore : ∀ q ∈ I_X6_itemsBefore, decode cX6_itemsBefore q.1 = .ok (q.2.1, q.2.2) := by decide +kernel
def f_X6_itemsBefore_0 (σ : St) : Option (Int32) :=
  some (σ 99 3)
set_option maxHeartbeats 4000000 in
set_option maxRecDepth 100000 in
theorem w_X6_itemsBefore_0 (X : Cx g RX6 cX6_itemsBefore 1 (some .int) p s m args meth c) (σ : St) {w : Int32} (KR : ∀ (H : Heap) (locs : List Loc) (ls : Array Slot) (pc : Nat), Wd g s σ H locs → decode cX6_itemsBefore pc = .ok (.ireturn, 1) → W p l e (rmm 0 0) s m args below meth c H locs 0 0 Q (F0 m pc ls [.int (w)])) {H : Heap} {locs : List Loc} {ls : Array Slot} (Y : Wd g s σ H locs) (hl : lv_has ls 1 [(0, .ref (g.2.2 (99)))]) (h : f_X6_itemsBefore_0 σ = some w) : W p l e (rmm 0 0) s m args below meth c H locs 0 0 Q (F0 m 0 ls []) := by
  unfold f_X6_itemsBefore_0 at h
  refine lv_aload_n X.1 X.2.1 (dk T_X6_itemsBefore 0 rfl) rfl (lv_at hl 0 rfl) ?_
  refine gg X Y fl_X6_22 rfl rfl (dk T_X6_itemsBefore 1 rfl) ?_
  obtain rfl := Option.some.inj h
  exact KR _ _ _ _ Y (dk T_X6_itemsBefore 2 rfl)
def f_X6_itemsBefore (σ : St) : Option (Int32) := f_X6_itemsBefore_0 σ
set_option maxHeartbeats 4000000 in
set_option maxRecDepth 100000 in
theorem c_X6_itemsBefore {l : Launch} {g : Geo} (σ : St) {w : Int32} (h : f_X6_itemsBefore σ = some w) : CtI l yX6_itemsBefore cX6_itemsBefore 1 (some .int) (rmm 0 0) g [.ref (g.2.2 (99))] σ w σ := enI .int (by decide) rfl rfl (Nat.le_of_ble_eq_true rfl) (fun p e s m args below meth c Q X Y ls hl KR => w_X6_itemsBefore_0 X σ KR Y hl h)
def I_X6_position : List (Nat × Instr × Nat) := [(0, .aload_n 0, 1), (1, .getfield 19, 3), (4, .ireturn, 1)]
set_option maxRecDepth 100000 in
theorem T_X6_position : ∀ q ∈ I_X6_position, decode cX6_position q.1 = .ok (q.2.1, q.2.2) := by decide +kernel
def f_X6_position_0 (σ : St) : Option (Int32) :=
  some (σ 99 2)
set_option maxHeartbeats 4000000 in
set_option maxRecDepth 100000 in
theorem w_X6_position_0 (X : Cx g RX6 cX6_position 1 (some .int) p s m args meth c) (σ : St) {w : Int32} (KR : ∀ (H : Heap) (locs : List Loc) (ls : Array Slot) (pc : Nat), Wd g s σ H locs → decode cX6_position pc = .ok (.ireturn, 1) → W p l e (rmm 0 0) s m args below meth c H locs 0 0 Q (F0 m pc ls [.int (w)])) {H : Heap} {locs : List Loc} {ls : Array Slot} (Y : Wd g s σ H locs) (hl : lv_has ls 1 [(0, .ref (g.2.2 (99)))]) (h : f_X6_position_0 σ = some w) : W p l e (rmm 0 0) s m args below meth c H locs 0 0 Q (F0 m 0 ls []) := by
  unfold f_X6_position_0 at h
  refine lv_aload_n X.1 X.2.1 (dk T_X6_position 0 rfl) rfl (lv_at hl 0 rfl) ?_
  refine gg X Y fl_X6_19 rfl rfl (dk T_X6_position 1 rfl) ?_
  obtain rfl := Option.some.inj h
  exact KR _ _ _ _ Y (dk T_X6_position 2 rfl)
def f_X6_position (σ : St) : Option (Int32) := f_X6_position_0 σ
set_option maxHeartbeats 4000000 in
set_option maxRecDepth 100000 in
theorem c_X6_position {l : Launch} {g : Geo} (σ : St) {w : Int32} (h : f_X6_position σ = some w) : CtI l yX6_position cX6_position 1 (some .int) (rmm 0 0) g [.ref (g.2.2 (99))] σ w σ := enI .int (by decide) rfl rfl (Nat.le_of_ble_eq_true rfl) (fun p e s m args below meth c Q X Y ls hl KR => w_X6_position_0 X σ KR Y hl h)
def I_X6_clear : List (Nat × Instr × Nat) := [(0, .aload_n 0, 1), (1, .iconst 0, 1), (2, .putfield 15, 3), (5, .return_, 1)]
set_option maxRecDepth 100000 in
theorem T_X6_clear : ∀ q ∈ I_X6_clear, decode cX6_clear q.1 = .ok (q.2.1, q.2.2) := by decide +kernel
def f_X6_clear_0 (σ : St) : Option (St) :=
  some (up σ 99 1 0)
set_option maxHeartbeats 4000000 in
set_option maxRecDepth 100000 in
theorem w_X6_clear_0 (X : Cx g RX6 cX6_clear 1 none p s m args meth c) (σ : St) {w : St} (KR : ∀ (H : Heap) (locs : List Loc) (ls : Array Slot) (pc : Nat), Wd g s w H locs → decode cX6_clear pc = .ok (.return_, 1) → W p l e (rmm 0 0) s m args below meth c H locs 0 0 Q (F0 m pc ls [])) {H : Heap} {locs : List Loc} {ls : Array Slot} (Y : Wd g s σ H locs) (hl : lv_has ls 1 [(0, .ref (g.2.2 (99)))]) (h : f_X6_clear_0 σ = some w) : W p l e (rmm 0 0) s m args below meth c H locs 0 0 Q (F0 m 0 ls []) := by
  unfold f_X6_clear_0 at h
  refine lv_aload_n X.1 X.2.1 (dk T_X6_clear 0 rfl) rfl (lv_at hl 0 rfl) ?_
  refine lv_iconst (v := 0) X.1 X.2.1 (dk T_X6_clear 1 rfl) ic_0 ?_
  refine gp X Y fp_X6_15 rfl (nar_int _) (dk T_X6_clear 2 rfl) (fun H locs Y => ?_)
  obtain rfl := Option.some.inj h
  exact KR _ _ _ _ Y (dk T_X6_clear 3 rfl)
def f_X6_clear (σ : St) : Option (St) := f_X6_clear_0 σ
set_option maxHeartbeats 4000000 in
set_option maxRecDepth 100000 in
theorem c_X6_clear {l : Launch} {g : Geo} (σ : St) {w : St} (h : f_X6_clear σ = some w) : CtV l yX6_clear cX6_clear 1 none (rmm 0 0) g [.ref (g.2.2 (99))] σ w := enV (by decide) rfl (Nat.le_of_ble_eq_true rfl) (fun p e s m args below meth c Q X Y ls hl KR => w_X6_clear_0 X σ KR Y hl h)
end
