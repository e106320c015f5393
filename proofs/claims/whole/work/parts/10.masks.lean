theorem bp_8 : (Int8.ofInt 8).toInt32 = 8 := by decide
theorem bp_10 : (Int8.ofInt 10).toInt32 = 10 := by decide
theorem bp_16 : (Int8.ofInt 16).toInt32 = 16 := by decide
theorem bp_63 : (Int8.ofInt 63).toInt32 = 63 := by decide
theorem ic_m1 : Int32.ofInt (-1) = (-1) := by decide
theorem ic_0 : Int32.ofInt 0 = 0 := by decide
theorem ic_1 : Int32.ofInt 1 = 1 := by decide
theorem ic_2 : Int32.ofInt 2 = 2 := by decide
theorem ic_3 : Int32.ofInt 3 = 3 := by decide
theorem ic_4 : Int32.ofInt 4 = 4 := by decide
theorem cb_X0_20 : CBN RX0 20 yX10_put cX10_put 3 none 3 := ⟨by decide, mw 0 2 rfl rfl, mw 14 13 rfl rfl, by decide, by decide, by decide +kernel, mw 14 12 rfl rfl⟩
theorem cb_X0_26 : CBN RX0 26 yX10_at cX10_at 2 (some .int) 2 := ⟨by decide, mw 0 2 rfl rfl, mw 14 27 rfl rfl, by decide, by decide, by decide +kernel, mw 14 26 rfl rfl⟩
theorem cb_X10_82 : CBS RX10 82 yX10_isWithin cX10_isWithin 3 (some .boolean) 3 := ⟨⟨mw 5 17 rfl rfl, mw 0 2 rfl rfl, mw 5 19 rfl rfl, by decide, by decide, by decide +kernel⟩, mw 5 18 rfl rfl⟩
theorem cb_X3_9 : CBN RX3 9 yX10_isWithin cX10_isWithin 3 (some .boolean) 3 := ⟨by decide, mw 0 2 rfl rfl, mw 5 19 rfl rfl, by decide, by decide, by decide +kernel, mw 5 18 rfl rfl⟩
theorem cb_X3_13 : CBS RX3 13 yX3_hasEmptyLine cX3_hasEmptyLine 4 (some .boolean) 3 := ⟨⟨mw 8 17 rfl rfl, mw 8 15 rfl rfl, mw 8 19 rfl rfl, by decide, by decide, by decide +kernel⟩, mw 8 18 rfl rfl⟩
theorem cb_X3_18 : CBS RX3 18 yX3_isConnected cX3_isConnected 9 (some .boolean) 3 := ⟨⟨mw 8 26 rfl rfl, mw 8 15 rfl rfl, mw 8 28 rfl rfl, by decide, by decide, by decide +kernel⟩, mw 8 27 rfl rfl⟩
theorem cb_X3_21 : CBS RX3 21 yX3_covers cX3_covers 4 (some .boolean) 4 := ⟨⟨mw 9 4 rfl rfl, mw 8 15 rfl rfl, mw 9 6 rfl rfl, by decide, by decide, by decide +kernel⟩, mw 9 5 rfl rfl⟩
theorem cb_X3_25 : CBS RX3 25 yX3_rowMask cX3_rowMask 2 (some .int) 2 := ⟨⟨mw 8 20 rfl rfl, mw 8 15 rfl rfl, mw 8 22 rfl rfl, by decide, by decide, by decide +kernel⟩, mw 8 21 rfl rfl⟩
theorem cb_X3_29 : CBS RX3 29 yX3_columnMask cX3_columnMask 5 (some .int) 3 := ⟨⟨mw 8 23 rfl rfl, mw 8 15 rfl rfl, mw 8 25 rfl rfl, by decide, by decide, by decide +kernel⟩, mw 8 24 rfl rfl⟩
theorem cb_X9_20 : CBV RX9 20 yX9_isFull cX9_isFull 1 (some .boolean) 0 10 := ⟨⟨mw 6 25 rfl rfl, mw 1 24 rfl rfl, mw 5 23 rfl rfl, by decide, by decide, by decide +kernel⟩, mw 5 21 rfl rfl, mw 5 22 rfl rfl, TX9, 3, tyX9, cl_X9⟩
theorem cb_X9_24 : CBV RX9 24 yX9_has cX9_has 2 (some .boolean) 1 10 := ⟨⟨mw 22 3 rfl rfl, mw 1 24 rfl rfl, mw 10 25 rfl rfl, by decide, by decide, by decide +kernel⟩, mw 10 23 rfl rfl, mw 10 24 rfl rfl, TX9, 3, tyX9, cl_X9⟩
theorem cb_X9_28 : CBN RX9 28 yX10_at cX10_at 2 (some .int) 2 := ⟨by decide, mw 0 2 rfl rfl, mw 14 27 rfl rfl, by decide, by decide, by decide +kernel, mw 14 26 rfl rfl⟩
theorem cb_X9_34 : CBN RX9 34 yX10_put cX10_put 3 none 3 := ⟨by decide, mw 0 2 rfl rfl, mw 14 13 rfl rfl, by decide, by decide, by decide +kernel, mw 14 12 rfl rfl⟩
theorem cb_X9_38 : CBV RX9 38 yX9_get cX9_get 4 (some .int) 2 10 := ⟨⟨mw 13 21 rfl rfl, mw 1 24 rfl rfl, mw 11 5 rfl rfl, by decide, by decide, by decide +kernel⟩, mw 11 3 rfl rfl, mw 11 4 rfl rfl, TX9, 3, tyX9, cl_X9⟩
theorem mb_X9_42 : MB RX9 42 Lib.Math.min.name Lib.Math.min.code 2 := ⟨mw 6 12 rfl rfl, mw 5 29 rfl rfl, mw 5 30 rfl rfl, mw 5 31 rfl rfl⟩
theorem ab_X9_47 : AB RX9 47 := ⟨mw 6 13 rfl rfl, mw 6 14 rfl rfl, mw 6 15 rfl rfl, mw 6 16 rfl rfl⟩
section
variable {p : Program} {l : Launch} {e : Env} {s : State} {m : MethodId} {args : Array Value} {below : List Frame} {meth : Method} {c : Code} {Q : State → Prop} {g : Geo}
def I_X10_isWithin : List (Nat × Instr × Nat) := [(0, .iload_n 0, 1), (1, .iload_n 1, 1), (2, .if_icmp .lt 12, 3), (5, .iload_n 0, 1), (6, .iload_n 2, 1), (7, .if_icmp .gt 7, 3), (10, .iconst 1, 1), (11, .goto 4, 3), (14, .iconst 0, 1), (15, .ireturn, 1)]
set_option maxRecDepth 100000 in
theorem T_X10_isWithin : ∀ q ∈ I_X10_isWithin, decode cX10_isWithin q.1 = .ok (q.2.1, q.2.2) := by decide +kernel
def f_X10_isWithin_0 (x0 : Int32) (x1 : Int32) (x2 : Int32) : Option (Int32) :=
  if x0 < x1 then some 0 else if x2 < x0 then some 0 else some 1
set_option maxHeartbeats 4000000 in
set_option maxRecDepth 100000 in
theorem w_X10_isWithin_0 (X : Cx g RX10 cX10_isWithin 3 (some .boolean) p s m args meth c) (x0 : Int32) (x1 : Int32) (x2 : Int32) (σ : St) {w : Int32} (KR : ∀ (H : Heap) (locs : List Loc) (ls : Array Slot) (pc : Nat), Wd g s σ H locs → decode cX10_isWithin pc = .ok (.ireturn, 1) → W p l e (rmm 0 0) s m args below meth c H locs 0 0 Q (F0 m pc ls [.int (w)])) {H : Heap} {locs : List Loc} {ls : Array Slot} (Y : Wd g s σ H locs) (hl : lv_has ls 3 [(0, .int (x0)), (1, .int (x1)), (2, .int (x2))]) (h : f_X10_isWithin_0 x0 x1 x2 = some w) : W p l e (rmm 0 0) s m args below meth c H locs 0 0 Q (F0 m 0 ls []) := by
  unfold f_X10_isWithin_0 at h
  refine lv_iload_n X.1 X.2.1 (dk T_X10_isWithin 0 rfl) rfl (lv_at hl 0 rfl) ?_
  refine lv_iload_n X.1 X.2.1 (dk T_X10_isWithin 1 rfl) rfl (lv_at hl 1 rfl) ?_
  refine lv_icmp_lt (tgt := 14) X.1 X.2.1 (dk T_X10_isWithin 2 rfl) rfl (fun c1 => ?_) (fun c1 => ?_)
  · replace h := ipos c1 h
    refine lv_iconst (v := 0) X.1 X.2.1 (dk T_X10_isWithin 8 rfl) ic_0 ?_
    obtain rfl := Option.some.inj h
    exact KR _ _ _ _ Y (dk T_X10_isWithin 9 rfl)
  · replace h := ineg c1 h
    refine lv_iload_n X.1 X.2.1 (dk T_X10_isWithin 3 rfl) rfl (lv_at hl 0 rfl) ?_
    refine lv_iload_n X.1 X.2.1 (dk T_X10_isWithin 4 rfl) rfl (lv_at hl 2 rfl) ?_
    refine lv_icmp_gt (tgt := 14) X.1 X.2.1 (dk T_X10_isWithin 5 rfl) rfl (fun c2 => ?_) (fun c2 => ?_)
    · replace h := ipos c2 h
      refine lv_iconst (v := 0) X.1 X.2.1 (dk T_X10_isWithin 8 rfl) ic_0 ?_
      obtain rfl := Option.some.inj h
      exact KR _ _ _ _ Y (dk T_X10_isWithin 9 rfl)
    · replace h := ineg c2 h
      refine lv_iconst (v := 1) X.1 X.2.1 (dk T_X10_isWithin 6 rfl) ic_1 ?_
      refine lv_goto (tgt := 15) X.1 X.2.1 (dk T_X10_isWithin 7 rfl) rfl ?_
      obtain rfl := Option.some.inj h
      exact KR _ _ _ _ Y (dk T_X10_isWithin 9 rfl)
def f_X10_isWithin (x0 : Int32) (x1 : Int32) (x2 : Int32) : Option (Int32) := bz (f_X10_isWithin_0 x0 x1 x2)
set_option maxHeartbeats 4000000 in
set_option maxRecDepth 100000 in
theorem c_X10_isWithin {l : Launch} {g : Geo} (x0 : Int32) (x1 : Int32) (x2 : Int32) (σ : St) {w : Int32} (h : f_X10_isWithin x0 x1 x2 = some w) : CtI l yX10_isWithin cX10_isWithin 3 (some .boolean) (rmm 0 0) g [.int (x0), .int (x1), .int (x2)] σ w σ := by
  obtain ⟨h, hz⟩ := bz_s h
  exact enI .boolean (by decide) rfl (bz_n hz) (Nat.le_of_ble_eq_true rfl) (fun p e s m args below meth c Q X Y ls hl KR => w_X10_isWithin_0 X x0 x1 x2 σ KR Y hl h)
def I_X10_isSheetSide : List (Nat × Instr × Nat) := [(0, .iload_n 0, 1), (1, .iconst 2, 1), (2, .bipush 10, 2), (4, .invokestatic 82, 3), (7, .ireturn, 1)]
set_option maxRecDepth 100000 in
theorem T_X10_isSheetSide : ∀ q ∈ I_X10_isSheetSide, decode cX10_isSheetSide q.1 = .ok (q.2.1, q.2.2) := by decide +kernel
def f_X10_isSheetSide_0 (x0 : Int32) : Option (Int32) :=
  (f_X10_isWithin x0 2 10).bind fun q1 => some q1
set_option maxHeartbeats 4000000 in
set_option maxRecDepth 100000 in
theorem w_X10_isSheetSide_0 (X : Cx g RX10 cX10_isSheetSide 1 (some .boolean) p s m args meth c) (x0 : Int32) (σ : St) {w : Int32} (KR : ∀ (H : Heap) (locs : List Loc) (ls : Array Slot) (pc : Nat), Wd g s σ H locs → decode cX10_isSheetSide pc = .ok (.ireturn, 1) → W p l e (rmm 1 22) s m args below meth c H locs 0 0 Q (F0 m pc ls [.int (w)])) {H : Heap} {locs : List Loc} {ls : Array Slot} (Y : Wd g s σ H locs) (hl : lv_has ls 1 [(0, .int (x0))]) (h : f_X10_isSheetSide_0 x0 = some w) : W p l e (rmm 1 22) s m args below meth c H locs 0 0 Q (F0 m 0 ls []) := by
  unfold f_X10_isSheetSide_0 at h
  refine lv_iload_n X.1 X.2.1 (dk T_X10_isSheetSide 0 rfl) rfl (lv_at hl 0 rfl) ?_
  refine lv_iconst (v := 2) X.1 X.2.1 (dk T_X10_isSheetSide 1 rfl) ic_2 ?_
  refine lv_bipush (v := 10) X.1 X.2.1 (dk T_X10_isSheetSide 2 rfl) bp_10 ?_
  obtain ⟨q1, hq1, h⟩ := bs h
  refine gsI (rest := []) X Y (c_X10_isWithin x0 2 10 σ hq1) cb_X10_82 hl.1 rfl rfl (Nat.le_of_ble_eq_true rfl) ⟨Nat.le_of_ble_eq_true rfl, Nat.le_of_ble_eq_true rfl⟩ (dk T_X10_isSheetSide 3 rfl) (fun H locs Y => ?_)
  obtain rfl := Option.some.inj h
  exact KR _ _ _ _ Y (dk T_X10_isSheetSide 4 rfl)
def f_X10_isSheetSide (x0 : Int32) : Option (Int32) := bz (f_X10_isSheetSide_0 x0)
set_option maxHeartbeats 4000000 in
set_option maxRecDepth 100000 in
theorem c_X10_isSheetSide {l : Launch} {g : Geo} (x0 : Int32) (σ : St) {w : Int32} (h : f_X10_isSheetSide x0 = some w) : CtI l yX10_isSheetSide cX10_isSheetSide 1 (some .boolean) (rmm 1 22) g [.int (x0)] σ w σ := by
  obtain ⟨h, hz⟩ := bz_s h
  exact enI .boolean (by decide) rfl (bz_n hz) (Nat.le_of_ble_eq_true rfl) (fun p e s m args below meth c Q X Y ls hl KR => w_X10_isSheetSide_0 X x0 σ KR Y hl h)
def I_X9_isFull : List (Nat × Instr × Nat) := [(0, .aload_n 0, 1), (1, .getfield 17, 3), (4, .iconst 1, 1), (5, .iadd, 1), (6, .aload_n 0, 1), (7, .getfield 7, 3), (10, .imul, 1), (11, .aload_n 0, 1), (12, .getfield 13, 3), (15, .arraylength, 1), (16, .if_icmp .le 7, 3), (19, .iconst 1, 1), (20, .goto 4, 3), (23, .iconst 0, 1), (24, .ireturn, 1)]
set_option maxRecDepth 100000 in
theorem T_X9_isFull : ∀ q ∈ I_X9_isFull, decode cX9_isFull q.1 = .ok (q.2.1, q.2.2) := by decide +kernel
def f_X9_isFull_0 (t0 : Nat) (σ : St) : Option (Int32) :=
  if (((σ t0 2) + 1) * (σ t0 0)) ≤ (Int32.ofNat (ln (t0 + 1))) then some 0 else some 1
set_option maxHeartbeats 4000000 in
set_option maxRecDepth 100000 in
theorem w_X9_isFull_0 (X : Cx g RX9 cX9_isFull 1 (some .boolean) p s m args meth c) (t0 : Nat) (hk0 : kd t0 = 10) (σ : St) {w : Int32} (KR : ∀ (H : Heap) (locs : List Loc) (ls : Array Slot) (pc : Nat), Wd g s σ H locs → decode cX9_isFull pc = .ok (.ireturn, 1) → W p l e (rmm 0 0) s m args below meth c H locs 0 0 Q (F0 m pc ls [.int (w)])) {H : Heap} {locs : List Loc} {ls : Array Slot} (Y : Wd g s σ H locs) (hl : lv_has ls 1 [(0, .ref (g.2.2 (t0)))]) (h : f_X9_isFull_0 t0 σ = some w) : W p l e (rmm 0 0) s m args below meth c H locs 0 0 Q (F0 m 0 ls []) := by
  unfold f_X9_isFull_0 at h
  refine lv_aload_n X.1 X.2.1 (dk T_X9_isFull 0 rfl) rfl (lv_at hl 0 rfl) ?_
  refine gg X Y fl_X9_17 hk0 rfl (dk T_X9_isFull 1 rfl) ?_
  refine lv_iconst (v := 1) X.1 X.2.1 (dk T_X9_isFull 2 rfl) ic_1 ?_
  refine lv_iadd X.1 X.2.1 (dk T_X9_isFull 3 rfl) ?_
  refine lv_aload_n X.1 X.2.1 (dk T_X9_isFull 4 rfl) rfl (lv_at hl 0 rfl) ?_
  refine gg X Y fl_X9_7 hk0 rfl (dk T_X9_isFull 5 rfl) ?_
  refine lv_imul X.1 X.2.1 (dk T_X9_isFull 6 rfl) ?_
  refine lv_aload_n X.1 X.2.1 (dk T_X9_isFull 7 rfl) rfl (lv_at hl 0 rfl) ?_
  refine gg X Y fl_X9_13 hk0 rfl (dk T_X9_isFull 8 rfl) ?_
  refine gal X Y (i := 0) (v := Int32.ofNat (ln (t0 + 1))) (kt1 hk0) (Nat.le_of_ble_eq_true rfl) rfl (dk T_X9_isFull 9 rfl) ?_
  refine lv_icmp_le (tgt := 23) X.1 X.2.1 (dk T_X9_isFull 10 rfl) rfl (fun c1 => ?_) (fun c1 => ?_)
  · replace h := ipos c1 h
    refine lv_iconst (v := 0) X.1 X.2.1 (dk T_X9_isFull 13 rfl) ic_0 ?_
    obtain rfl := Option.some.inj h
    exact KR _ _ _ _ Y (dk T_X9_isFull 14 rfl)
  · replace h := ineg c1 h
    refine lv_iconst (v := 1) X.1 X.2.1 (dk T_X9_isFull 11 rfl) ic_1 ?_
    refine lv_goto (tgt := 24) X.1 X.2.1 (dk T_X9_isFull 12 rfl) rfl ?_
    obtain rfl := Option.some.inj h
    exact KR _ _ _ _ Y (dk T_X9_isFull 14 rfl)
def f_X9_isFull (t0 : Nat) (σ : St) : Option (Int32) := bz (f_X9_isFull_0 t0 σ)
set_option maxHeartbeats 4000000 in
set_option maxRecDepth 100000 in
theorem c_X9_isFull {l : Launch} {g : Geo} (t0 : Nat) (hk0 : kd t0 = 10) (σ : St) {w : Int32} (h : f_X9_isFull t0 σ = some w) : CtI l yX9_isFull cX9_isFull 1 (some .boolean) (rmm 0 0) g [.ref (g.2.2 (t0))] σ w σ := by
  obtain ⟨h, hz⟩ := bz_s h
  exact enI .boolean (by decide) rfl (bz_n hz) (Nat.le_of_ble_eq_true rfl) (fun p e s m args below meth c Q X Y ls hl KR => w_X9_isFull_0 X t0 hk0 σ KR Y hl h)
def I_X9_copyFrom : List (Nat × Instr × Nat) := [(0, .aload_n 1, 1), (1, .getfield 13, 3), (4, .iconst 0, 1), (5, .aload_n 0, 1), (6, .getfield 13, 3), (9, .iconst 0, 1), (10, .aload_n 1, 1), (11, .getfield 13, 3), (14, .arraylength, 1), (15, .aload_n 0, 1), (16, .getfield 13, 3), (19, .arraylength, 1), (20, .invokestatic 42, 3), (23, .invokestatic 47, 3), (26, .aload_n 0, 1), (27, .aload_n 1, 1), (28, .getfield 17, 3), (31, .putfield 17, 3), (34, .return_, 1)]
set_option maxRecDepth 100000 in
theorem T_X9_copyFrom : ∀ q ∈ I_X9_copyFrom, decode cX9_copyFrom q.1 = .ok (q.2.1, q.2.2) := by decide +kernel
def f_X9_copyFrom_0 (t0 : Nat) (t1 : Nat) (σ : St) : Option (St) :=
  chk (cpok 0 (ln (t1 + 1)) 0 (ln (t0 + 1)) (if (Int32.ofNat (ln (t0 + 1))) < (Int32.ofNat (ln (t1 + 1))) then (Int32.ofNat (ln (t0 + 1))) else (Int32.ofNat (ln (t1 + 1))))) (some (up (upA σ (t0 + 1) (va_cpy (σ (t1 + 1)) (σ (t0 + 1)) (0 : Int32).toNatClampNeg (0 : Int32).toNatClampNeg (if (Int32.ofNat (ln (t0 + 1))) < (Int32.ofNat (ln (t1 + 1))) then (Int32.ofNat (ln (t0 + 1))) else (Int32.ofNat (ln (t1 + 1)))).toNatClampNeg)) t0 2 (upA σ (t0 + 1) (va_cpy (σ (t1 + 1)) (σ (t0 + 1)) (0 : Int32).toNatClampNeg (0 : Int32).toNatClampNeg (if (Int32.ofNat (ln (t0 + 1))) < (Int32.ofNat (ln (t1 + 1))) then (Int32.ofNat (ln (t0 + 1))) else (Int32.ofNat (ln (t1 + 1)))).toNatClampNeg) t1 2)))
set_option maxHeartbeats 4000000 in
set_option maxRecDepth 100000 in
theorem w_X9_copyFrom_0 (X : Cx g RX9 cX9_copyFrom 2 none p s m args meth c) (t0 : Nat) (t1 : Nat) (hk0 : kd t0 = 10) (hk1 : kd t1 = 10) (σ : St) {w : St} (KR : ∀ (H : Heap) (locs : List Loc) (ls : Array Slot) (pc : Nat), Wd g s w H locs → decode cX9_copyFrom pc = .ok (.return_, 1) → W p l e (rmm 1 40) s m args below meth c H locs 0 0 Q (F0 m pc ls [])) {H : Heap} {locs : List Loc} {ls : Array Slot} (Y : Wd g s σ H locs) (hl : lv_has ls 2 [(0, .ref (g.2.2 (t0))), (1, .ref (g.2.2 (t1)))]) (h : f_X9_copyFrom_0 t0 t1 σ = some w) : W p l e (rmm 1 40) s m args below meth c H locs 0 0 Q (F0 m 0 ls []) := by
  unfold f_X9_copyFrom_0 at h
  refine lv_aload_n X.1 X.2.1 (dk T_X9_copyFrom 0 rfl) rfl (lv_at hl 1 rfl) ?_
  refine gg X Y fl_X9_13 hk1 rfl (dk T_X9_copyFrom 1 rfl) ?_
  refine lv_iconst (v := 0) X.1 X.2.1 (dk T_X9_copyFrom 2 rfl) ic_0 ?_
  refine lv_aload_n X.1 X.2.1 (dk T_X9_copyFrom 3 rfl) rfl (lv_at hl 0 rfl) ?_
  refine gg X Y fl_X9_13 hk0 rfl (dk T_X9_copyFrom 4 rfl) ?_
  refine lv_iconst (v := 0) X.1 X.2.1 (dk T_X9_copyFrom 5 rfl) ic_0 ?_
  refine lv_aload_n X.1 X.2.1 (dk T_X9_copyFrom 6 rfl) rfl (lv_at hl 1 rfl) ?_
  refine gg X Y fl_X9_13 hk1 rfl (dk T_X9_copyFrom 7 rfl) ?_
  refine gal X Y (i := 0) (v := Int32.ofNat (ln (t1 + 1))) (kt1 hk1) (Nat.le_of_ble_eq_true rfl) rfl (dk T_X9_copyFrom 8 rfl) ?_
  refine lv_aload_n X.1 X.2.1 (dk T_X9_copyFrom 9 rfl) rfl (lv_at hl 0 rfl) ?_
  refine gg X Y fl_X9_13 hk0 rfl (dk T_X9_copyFrom 10 rfl) ?_
  refine gal X Y (i := 0) (v := Int32.ofNat (ln (t0 + 1))) (kt1 hk0) (Nat.le_of_ble_eq_true rfl) rfl (dk T_X9_copyFrom 11 rfl) ?_
  refine gm_min X mb_X9_42 hl.1 (Nat.le_of_ble_eq_true rfl) (Nat.le_of_ble_eq_true rfl) (dk T_X9_copyFrom 12 rfl) ?_
  obtain ⟨g2, h⟩ := gd h
  refine gcp X Y ab_X9_47 hl.1 (kt1 hk1) (kt1 hk0) g2 (Nat.le_of_ble_eq_true rfl) (Nat.le_of_ble_eq_true rfl) (dk T_X9_copyFrom 13 rfl) (fun H locs Y => ?_)
  refine lv_aload_n X.1 X.2.1 (dk T_X9_copyFrom 14 rfl) rfl (lv_at hl 0 rfl) ?_
  refine lv_aload_n X.1 X.2.1 (dk T_X9_copyFrom 15 rfl) rfl (lv_at hl 1 rfl) ?_
  refine gg X Y fl_X9_17 hk1 rfl (dk T_X9_copyFrom 16 rfl) ?_
  refine gp X Y fp_X9_17 hk0 (nar_int _) (dk T_X9_copyFrom 17 rfl) (fun H locs Y => ?_)
  obtain rfl := Option.some.inj h
  exact KR _ _ _ _ Y (dk T_X9_copyFrom 18 rfl)
def f_X9_copyFrom (t0 : Nat) (t1 : Nat) (σ : St) : Option (St) := f_X9_copyFrom_0 t0 t1 σ
set_option maxHeartbeats 4000000 in
set_option maxRecDepth 100000 in
theorem c_X9_copyFrom {l : Launch} {g : Geo} (t0 : Nat) (t1 : Nat) (hk0 : kd t0 = 10) (hk1 : kd t1 = 10) (σ : St) {w : St} (h : f_X9_copyFrom t0 t1 σ = some w) : CtV l yX9_copyFrom cX9_copyFrom 2 none (rmm 1 40) g [.ref (g.2.2 (t0)), .ref (g.2.2 (t1))] σ w := enV (by decide) rfl (Nat.le_of_ble_eq_true rfl) (fun p e s m args below meth c Q X Y ls hl KR => w_X9_copyFrom_0 X t0 t1 hk0 hk1 σ KR Y hl h)
def I_X9_append : List (Nat × Instr × Nat) := [(0, .aload_n 0, 1), (1, .invokevirtual 20, 3), (4, .ifCond .eq 5, 3), (7, .iconst (-1), 1), (8, .ireturn, 1), (9, .aload_n 0, 1), (10, .dup, 1), (11, .getfield 17, 3), (14, .iconst 1, 1), (15, .iadd, 1), (16, .putfield 17, 3), (19, .aload_n 0, 1), (20, .getfield 17, 3), (23, .iconst 1, 1), (24, .isub, 1), (25, .ireturn, 1)]
set_option maxRecDepth 100000 in
theorem T_X9_append : ∀ q ∈ I_X9_append, decode cX9_append q.1 = .ok (q.2.1, q.2.2) := by decide +kernel
def f_X9_append_0 (t0 : Nat) (σ : St) : Option (Int32 × St) :=
  (f_X9_isFull t0 σ).bind fun q1 => if q1 = 0 then some ((up σ t0 2 ((σ t0 2) + 1) t0 2) - 1, up σ t0 2 ((σ t0 2) + 1)) else some ((-1), σ)
set_option maxHeartbeats 4000000 in
set_option maxRecDepth 100000 in
theorem w_X9_append_0 (X : Cx g RX9 cX9_append 1 (some .int) p s m args meth c) (t0 : Nat) (hk0 : kd t0 = 10) (σ : St) {w : Int32 × St} (KR : ∀ (H : Heap) (locs : List Loc) (ls : Array Slot) (pc : Nat), Wd g s w.2 H locs → decode cX9_append pc = .ok (.ireturn, 1) → W p l e (rmm 1 20) s m args below meth c H locs 0 0 Q (F0 m pc ls [.int (w.1)])) {H : Heap} {locs : List Loc} {ls : Array Slot} (Y : Wd g s σ H locs) (hl : lv_has ls 1 [(0, .ref (g.2.2 (t0)))]) (h : f_X9_append_0 t0 σ = some w) : W p l e (rmm 1 20) s m args below meth c H locs 0 0 Q (F0 m 0 ls []) := by
  unfold f_X9_append_0 at h
  refine lv_aload_n X.1 X.2.1 (dk T_X9_append 0 rfl) rfl (lv_at hl 0 rfl) ?_
  obtain ⟨q1, hq1, h⟩ := bs h
  refine gvI (rest := []) X Y (c_X9_isFull t0 hk0 σ hq1) cb_X9_20 hk0 hl.1 rfl rfl (Nat.le_of_ble_eq_true rfl) ⟨Nat.le_of_ble_eq_true rfl, Nat.le_of_ble_eq_true rfl⟩ (dk T_X9_append 1 rfl) (fun H locs Y => ?_)
  refine lv_if_eq (tgt := 9) X.1 X.2.1 (dk T_X9_append 2 rfl) rfl (fun c2 => ?_) (fun c2 => ?_)
  · replace h := ipos c2 h
    refine lv_aload_n X.1 X.2.1 (dk T_X9_append 5 rfl) rfl (lv_at hl 0 rfl) ?_
    refine lv_dup X.1 X.2.1 (dk T_X9_append 6 rfl) rfl ?_
    refine gg X Y fl_X9_17 hk0 rfl (dk T_X9_append 7 rfl) ?_
    refine lv_iconst (v := 1) X.1 X.2.1 (dk T_X9_append 8 rfl) ic_1 ?_
    refine lv_iadd X.1 X.2.1 (dk T_X9_append 9 rfl) ?_
    refine gp X Y fp_X9_17 hk0 (nar_int _) (dk T_X9_append 10 rfl) (fun H locs Y => ?_)
    refine lv_aload_n X.1 X.2.1 (dk T_X9_append 11 rfl) rfl (lv_at hl 0 rfl) ?_
    refine gg X Y fl_X9_17 hk0 rfl (dk T_X9_append 12 rfl) ?_
    refine lv_iconst (v := 1) X.1 X.2.1 (dk T_X9_append 13 rfl) ic_1 ?_
    refine lv_isub X.1 X.2.1 (dk T_X9_append 14 rfl) ?_
    obtain rfl := Option.some.inj h
    exact KR _ _ _ _ Y (dk T_X9_append 15 rfl)
  · replace h := ineg c2 h
    refine lv_iconst (v := (-1)) X.1 X.2.1 (dk T_X9_append 3 rfl) ic_m1 ?_
    obtain rfl := Option.some.inj h
    exact KR _ _ _ _ Y (dk T_X9_append 4 rfl)
def f_X9_append (t0 : Nat) (σ : St) : Option (Int32 × St) := f_X9_append_0 t0 σ
set_option maxHeartbeats 4000000 in
set_option maxRecDepth 100000 in
theorem c_X9_append {l : Launch} {g : Geo} (t0 : Nat) (hk0 : kd t0 = 10) (σ : St) {w : Int32 × St} (h : f_X9_append t0 σ = some w) : CtI l yX9_append cX9_append 1 (some .int) (rmm 1 20) g [.ref (g.2.2 (t0))] σ w.1 w.2 := enI .int (by decide) rfl rfl (Nat.le_of_ble_eq_true rfl) (fun p e s m args below meth c Q X Y ls hl KR => w_X9_append_0 X t0 hk0 σ KR Y hl h)
def I_X9_set : List (Nat × Instr × Nat) := [(0, .iload_n 1, 1), (1, .aload_n 0, 1), (2, .getfield 7, 3), (5, .imul, 1), (6, .iload_n 2, 1), (7, .iadd, 1), (8, .istore 4, 2), (10, .iload 4, 2), (12, .ifCond .lt 21, 3), (15, .iload 4, 2), (17, .aload_n 0, 1), (18, .getfield 13, 3), (21, .arraylength, 1), (22, .if_icmp .ge 11, 3), (25, .aload_n 0, 1), (26, .getfield 13, 3), (29, .iload 4, 2), (31, .iload_n 3, 1), (32, .iastore, 1), (33, .return_, 1)]
set_option maxRecDepth 100000 in
theorem T_X9_set : ∀ q ∈ I_X9_set, decode cX9_set q.1 = .ok (q.2.1, q.2.2) := by decide +kernel
def f_X9_set_0 (t0 : Nat) (x1 : Int32) (x2 : Int32) (x3 : Int32) (σ : St) : Option (St) :=
  if ((x1 * (σ t0 0)) + x2) < 0 then some σ else if (Int32.ofNat (ln (t0 + 1))) ≤ ((x1 * (σ t0 0)) + x2) then some σ else chk (inb ((x1 * (σ t0 0)) + x2) (ln (t0 + 1))) (some (up σ (t0 + 1) ((x1 * (σ t0 0)) + x2).toNatClampNeg x3))
set_option maxHeartbeats 4000000 in
set_option maxRecDepth 100000 in
theorem w_X9_set_0 (X : Cx g RX9 cX9_set 5 none p s m args meth c) (t0 : Nat) (hk0 : kd t0 = 10) (x1 : Int32) (x2 : Int32) (x3 : Int32) (σ : St) {w : St} (KR : ∀ (H : Heap) (locs : List Loc) (ls : Array Slot) (pc : Nat), Wd g s w H locs → decode cX9_set pc = .ok (.return_, 1) → W p l e (rmm 0 0) s m args below meth c H locs 0 0 Q (F0 m pc ls [])) {H : Heap} {locs : List Loc} {ls : Array Slot} (Y : Wd g s σ H locs) (hl : lv_has ls 5 [(0, .ref (g.2.2 (t0))), (1, .int (x1)), (2, .int (x2)), (3, .int (x3))]) (h : f_X9_set_0 t0 x1 x2 x3 σ = some w) : W p l e (rmm 0 0) s m args below meth c H locs 0 0 Q (F0 m 0 ls []) := by
  unfold f_X9_set_0 at h
  refine lv_iload_n X.1 X.2.1 (dk T_X9_set 0 rfl) rfl (lv_at hl 1 rfl) ?_
  refine lv_aload_n X.1 X.2.1 (dk T_X9_set 1 rfl) rfl (lv_at hl 0 rfl) ?_
  refine gg X Y fl_X9_7 hk0 rfl (dk T_X9_set 2 rfl) ?_
  refine lv_imul X.1 X.2.1 (dk T_X9_set 3 rfl) ?_
  refine lv_iload_n X.1 X.2.1 (dk T_X9_set 4 rfl) rfl (lv_at hl 2 rfl) ?_
  refine lv_iadd X.1 X.2.1 (dk T_X9_set 5 rfl) ?_
  refine lv_istore (lv' := [(4, .int ((x1 * (σ t0 0)) + x2)), (0, .ref (g.2.2 (t0))), (1, .int (x1)), (2, .int (x2)), (3, .int (x3))]) X.1 X.2.1 (dk T_X9_set 6 rfl) hl (Nat.le_of_ble_eq_true rfl) rfl (fun ls hl => ?_)
  refine lv_iload X.1 X.2.1 (dk T_X9_set 7 rfl) (lv_at hl 0 rfl) ?_
  refine lv_if_lt (tgt := 33) X.1 X.2.1 (dk T_X9_set 8 rfl) rfl (fun c1 => ?_) (fun c1 => ?_)
  · replace h := ipos c1 h
    obtain rfl := Option.some.inj h
    exact KR _ _ _ _ Y (dk T_X9_set 19 rfl)
  · replace h := ineg c1 h
    refine lv_iload X.1 X.2.1 (dk T_X9_set 9 rfl) (lv_at hl 0 rfl) ?_
    refine lv_aload_n X.1 X.2.1 (dk T_X9_set 10 rfl) rfl (lv_at hl 1 rfl) ?_
    refine gg X Y fl_X9_13 hk0 rfl (dk T_X9_set 11 rfl) ?_
    refine gal X Y (i := 0) (v := Int32.ofNat (ln (t0 + 1))) (kt1 hk0) (Nat.le_of_ble_eq_true rfl) rfl (dk T_X9_set 12 rfl) ?_
    refine lv_icmp_ge (tgt := 33) X.1 X.2.1 (dk T_X9_set 13 rfl) rfl (fun c2 => ?_) (fun c2 => ?_)
    · replace h := ipos c2 h
      obtain rfl := Option.some.inj h
      exact KR _ _ _ _ Y (dk T_X9_set 19 rfl)
    · replace h := ineg c2 h
      refine lv_aload_n X.1 X.2.1 (dk T_X9_set 14 rfl) rfl (lv_at hl 1 rfl) ?_
      refine gg X Y fl_X9_13 hk0 rfl (dk T_X9_set 15 rfl) ?_
      refine lv_iload X.1 X.2.1 (dk T_X9_set 16 rfl) (lv_at hl 0 rfl) ?_
      refine lv_iload_n X.1 X.2.1 (dk T_X9_set 17 rfl) rfl (lv_at hl 4 rfl) ?_
      obtain ⟨g3, h⟩ := gd h
      refine gis X Y (kt1 hk0) (inp g3) (dk T_X9_set 18 rfl) (fun H locs Y => ?_)
      obtain rfl := Option.some.inj h
      exact KR _ _ _ _ Y (dk T_X9_set 19 rfl)
def f_X9_set (t0 : Nat) (x1 : Int32) (x2 : Int32) (x3 : Int32) (σ : St) : Option (St) := f_X9_set_0 t0 x1 x2 x3 σ
set_option maxHeartbeats 4000000 in
set_option maxRecDepth 100000 in
theorem c_X9_set {l : Launch} {g : Geo} (t0 : Nat) (hk0 : kd t0 = 10) (x1 : Int32) (x2 : Int32) (x3 : Int32) (σ : St) {w : St} (h : f_X9_set t0 x1 x2 x3 σ = some w) : CtV l yX9_set cX9_set 5 none (rmm 0 0) g [.ref (g.2.2 (t0)), .int (x1), .int (x2), .int (x3)] σ w := enV (by decide) rfl (Nat.le_of_ble_eq_true rfl) (fun p e s m args below meth c Q X Y ls hl KR => w_X9_set_0 X t0 hk0 x1 x2 x3 σ KR Y hl h)
def I_X3_rowMask : List (Nat × Instr × Nat) := [(0, .iconst 1, 1), (1, .iload_n 0, 1), (2, .ishl, 1), (3, .iconst 1, 1), (4, .isub, 1), (5, .iload_n 0, 1), (6, .iload_n 1, 1), (7, .imul, 1), (8, .ishl, 1), (9, .ireturn, 1)]
set_option maxRecDepth 100000 in
theorem T_X3_rowMask : ∀ q ∈ I_X3_rowMask, decode cX3_rowMask q.1 = .ok (q.2.1, q.2.2) := by decide +kernel
def f_X3_rowMask_0 (x0 : Int32) (x1 : Int32) : Option (Int32) :=
  some ((((1 : Int32) <<< (x0 &&& 31)) - 1) <<< ((x0 * x1) &&& 31))
set_option maxHeartbeats 4000000 in
set_option maxRecDepth 100000 in
theorem w_X3_rowMask_0 (X : Cx g RX3 cX3_rowMask 2 (some .int) p s m args meth c) (x0 : Int32) (x1 : Int32) (σ : St) {w : Int32} (KR : ∀ (H : Heap) (locs : List Loc) (ls : Array Slot) (pc : Nat), Wd g s σ H locs → decode cX3_rowMask pc = .ok (.ireturn, 1) → W p l e (rmm 0 0) s m args below meth c H locs 0 0 Q (F0 m pc ls [.int (w)])) {H : Heap} {locs : List Loc} {ls : Array Slot} (Y : Wd g s σ H locs) (hl : lv_has ls 2 [(0, .int (x0)), (1, .int (x1))]) (h : f_X3_rowMask_0 x0 x1 = some w) : W p l e (rmm 0 0) s m args below meth c H locs 0 0 Q (F0 m 0 ls []) := by
  unfold f_X3_rowMask_0 at h
  refine lv_iconst (v := 1) X.1 X.2.1 (dk T_X3_rowMask 0 rfl) ic_1 ?_
  refine lv_iload_n X.1 X.2.1 (dk T_X3_rowMask 1 rfl) rfl (lv_at hl 0 rfl) ?_
  refine lv_ishl X.1 X.2.1 (dk T_X3_rowMask 2 rfl) ?_
  refine lv_iconst (v := 1) X.1 X.2.1 (dk T_X3_rowMask 3 rfl) ic_1 ?_
  refine lv_isub X.1 X.2.1 (dk T_X3_rowMask 4 rfl) ?_
  refine lv_iload_n X.1 X.2.1 (dk T_X3_rowMask 5 rfl) rfl (lv_at hl 0 rfl) ?_
  refine lv_iload_n X.1 X.2.1 (dk T_X3_rowMask 6 rfl) rfl (lv_at hl 1 rfl) ?_
  refine lv_imul X.1 X.2.1 (dk T_X3_rowMask 7 rfl) ?_
  refine lv_ishl X.1 X.2.1 (dk T_X3_rowMask 8 rfl) ?_
  obtain rfl := Option.some.inj h
  exact KR _ _ _ _ Y (dk T_X3_rowMask 9 rfl)
def f_X3_rowMask (x0 : Int32) (x1 : Int32) : Option (Int32) := f_X3_rowMask_0 x0 x1
set_option maxHeartbeats 4000000 in
set_option maxRecDepth 100000 in
theorem c_X3_rowMask {l : Launch} {g : Geo} (x0 : Int32) (x1 : Int32) (σ : St) {w : Int32} (h : f_X3_rowMask x0 x1 = some w) : CtI l yX3_rowMask cX3_rowMask 2 (some .int) (rmm 0 0) g [.int (x0), .int (x1)] σ w σ := enI .int (by decide) rfl rfl (Nat.le_of_ble_eq_true rfl) (fun p e s m args below meth c Q X Y ls hl KR => w_X3_rowMask_0 X x0 x1 σ KR Y hl h)
def I_X3_columnMask : List (Nat × Instr × Nat) := [(0, .iconst 0, 1), (1, .istore_n 3, 1), (2, .iconst 0, 1), (3, .istore 4, 2), (5, .iload 4, 2), (7, .iload_n 1, 1), (8, .if_icmp .ge 20, 3), (11, .iload_n 3, 1), (12, .iconst 1, 1), (13, .iload_n 2, 1), (14, .iload_n 0, 1), (15, .iload 4, 2), (17, .imul, 1), (18, .iadd, 1), (19, .ishl, 1), (20, .ior, 1), (21, .istore_n 3, 1), (22, .iinc 4 1, 3), (25, .goto (-20), 3), (28, .iload_n 3, 1), (29, .ireturn, 1)]
set_option maxRecDepth 100000 in
theorem T_X3_columnMask : ∀ q ∈ I_X3_columnMask, decode cX3_columnMask q.1 = .ok (q.2.1, q.2.2) := by decide +kernel
def f_X3_columnMask_l5 (x0 : Int32) (x1 : Int32) (x2 : Int32) (z : Int32 × Int32) : Option ((Int32 × Int32) ⊕ (Int32)) :=
  if x1 ≤ z.2 then some (.inr z.1) else some (.inl (z.1 ||| ((1 : Int32) <<< ((x2 + (x0 * z.2)) &&& 31)), z.2 + 1))
set_option maxHeartbeats 4000000 in
set_option maxRecDepth 100000 in
theorem w_X3_columnMask_l5 (X : Cx g RX3 cX3_columnMask 5 (some .int) p s m args meth c) (x0 : Int32) (x1 : Int32) (x2 : Int32) (σ : St) {r : Int32} (KX0 : ∀ (v : Int32), r = v → ∀ (H : Heap) (locs : List Loc) (ls : Array Slot), Wd g s σ H locs → lv_has ls 5 [(3, .int (v))] → W p l e (rmm 0 0) s m args below meth c H locs 0 0 Q (F0 m 28 ls [])) : ∀ (n : Nat) (z : Int32 × Int32) {H : Heap} {locs : List Loc} {ls : Array Slot}, Wd g s σ H locs → lv_has ls 5 [(0, .int (x0)), (1, .int (x1)), (2, .int (x2)), (3, .int (z.1)), (4, .int (z.2))] → lp (f_X3_columnMask_l5 x0 x1 x2) n z = some r → W p l e (rmm 0 0) s m args below meth c H locs 0 0 Q (F0 m 5 ls []) := by
  intro n
  induction n with
  | zero => intro z H locs ls Y hl h; cases h
  | succ n ih =>
    intro z H locs ls Y hl h
    obtain ⟨w, h, hw⟩ := lps h
    have KB : ∀ (v0_ : Int32) (v1_ : Int32), w = .inl (v0_, v1_) → ∀ (H : Heap) (locs : List Loc) (ls : Array Slot), Wd g s σ H locs → lv_has ls 5 [(0, .int (x0)), (1, .int (x1)), (2, .int (x2)), (3, .int (v0_)), (4, .int (v1_))] → W p l e (rmm 0 0) s m args below meth c H locs 0 0 Q (F0 m 5 ls []) := fun v0_ v1_ e H locs ls Y hl => ih (v0_, v1_) Y hl (lpl hw e)
    have KX0 := fun (v : Int32) (e : w = .inr v) => KX0 v (lpr hw e)
    unfold f_X3_columnMask_l5 at h
    refine lv_iload X.1 X.2.1 (dk T_X3_columnMask 4 rfl) (lv_at hl 4 rfl) ?_
    refine lv_iload_n X.1 X.2.1 (dk T_X3_columnMask 5 rfl) rfl (lv_at hl 1 rfl) ?_
    refine lv_icmp_ge (tgt := 28) X.1 X.2.1 (dk T_X3_columnMask 6 rfl) rfl (fun c1 => ?_) (fun c1 => ?_)
    · replace h := ipos c1 h
      exact KX0 z.1 (Option.some.inj h).symm _ _ _ Y (lv_sub hl [3] rfl)
    · replace h := ineg c1 h
      refine lv_iload_n X.1 X.2.1 (dk T_X3_columnMask 7 rfl) rfl (lv_at hl 3 rfl) ?_
      refine lv_iconst (v := 1) X.1 X.2.1 (dk T_X3_columnMask 8 rfl) ic_1 ?_
      refine lv_iload_n X.1 X.2.1 (dk T_X3_columnMask 9 rfl) rfl (lv_at hl 2 rfl) ?_
      refine lv_iload_n X.1 X.2.1 (dk T_X3_columnMask 10 rfl) rfl (lv_at hl 0 rfl) ?_
      refine lv_iload X.1 X.2.1 (dk T_X3_columnMask 11 rfl) (lv_at hl 4 rfl) ?_
      refine lv_imul X.1 X.2.1 (dk T_X3_columnMask 12 rfl) ?_
      refine lv_iadd X.1 X.2.1 (dk T_X3_columnMask 13 rfl) ?_
      refine lv_ishl X.1 X.2.1 (dk T_X3_columnMask 14 rfl) ?_
      refine lv_ior X.1 X.2.1 (dk T_X3_columnMask 15 rfl) ?_
      refine lv_istore_n (lv' := [(3, .int (z.1 ||| ((1 : Int32) <<< ((x2 + (x0 * z.2)) &&& 31)))), (0, .int (x0)), (1, .int (x1)), (2, .int (x2)), (4, .int (z.2))]) X.1 X.2.1 (dk T_X3_columnMask 16 rfl) rfl hl (Nat.le_of_ble_eq_true rfl) rfl (fun ls hl => ?_)
      refine lv_iinc (v := z.2 + 1) (lv' := [(4, .int (z.2 + 1)), (3, .int (z.1 ||| ((1 : Int32) <<< ((x2 + (x0 * z.2)) &&& 31)))), (0, .int (x0)), (1, .int (x1)), (2, .int (x2))]) X.1 X.2.1 (dk T_X3_columnMask 17 rfl) hl (k := 4) rfl (icx ic_1) (Nat.le_of_ble_eq_true rfl) rfl (fun ls hl => ?_)
      refine lv_goto (tgt := 5) X.1 X.2.1 (dk T_X3_columnMask 18 rfl) rfl ?_
      exact KB (z.1 ||| ((1 : Int32) <<< ((x2 + (x0 * z.2)) &&& 31))) (z.2 + 1) (Option.some.inj h).symm _ _ _ Y (lv_sub hl [2, 3, 4, 1, 0] rfl)
def f_X3_columnMask_0 (x0 : Int32) (x1 : Int32) (x2 : Int32) : Option (Int32) :=
  (lp (f_X3_columnMask_l5 x0 x1 x2) FU (0, 0)).bind fun q2 => some q2
set_option maxHeartbeats 4000000 in
set_option maxRecDepth 100000 in
theorem w_X3_columnMask_0 (X : Cx g RX3 cX3_columnMask 5 (some .int) p s m args meth c) (x0 : Int32) (x1 : Int32) (x2 : Int32) (σ : St) {w : Int32} (KR : ∀ (H : Heap) (locs : List Loc) (ls : Array Slot) (pc : Nat), Wd g s σ H locs → decode cX3_columnMask pc = .ok (.ireturn, 1) → W p l e (rmm 0 0) s m args below meth c H locs 0 0 Q (F0 m pc ls [.int (w)])) {H : Heap} {locs : List Loc} {ls : Array Slot} (Y : Wd g s σ H locs) (hl : lv_has ls 5 [(0, .int (x0)), (1, .int (x1)), (2, .int (x2))]) (h : f_X3_columnMask_0 x0 x1 x2 = some w) : W p l e (rmm 0 0) s m args below meth c H locs 0 0 Q (F0 m 0 ls []) := by
  unfold f_X3_columnMask_0 at h
  refine lv_iconst (v := 0) X.1 X.2.1 (dk T_X3_columnMask 0 rfl) ic_0 ?_
  refine lv_istore_n (lv' := [(3, .int (0)), (0, .int (x0)), (1, .int (x1)), (2, .int (x2))]) X.1 X.2.1 (dk T_X3_columnMask 1 rfl) rfl hl (Nat.le_of_ble_eq_true rfl) rfl (fun ls hl => ?_)
  refine lv_iconst (v := 0) X.1 X.2.1 (dk T_X3_columnMask 2 rfl) ic_0 ?_
  refine lv_istore (lv' := [(4, .int (0)), (3, .int (0)), (0, .int (x0)), (1, .int (x1)), (2, .int (x2))]) X.1 X.2.1 (dk T_X3_columnMask 3 rfl) hl (Nat.le_of_ble_eq_true rfl) rfl (fun ls hl => ?_)
  obtain ⟨q2, hq2, h⟩ := bs h
  refine w_X3_columnMask_l5 X x0 x1 x2 σ (fun v e H locs ls Y hl => ?_) FU (0, 0) Y (lv_sub hl [2, 3, 4, 1, 0] rfl) hq2
  · obtain rfl := e
    refine lv_iload_n X.1 X.2.1 (dk T_X3_columnMask 19 rfl) rfl (lv_at hl 0 rfl) ?_
    obtain rfl := Option.some.inj h
    exact KR _ _ _ _ Y (dk T_X3_columnMask 20 rfl)
def f_X3_columnMask (x0 : Int32) (x1 : Int32) (x2 : Int32) : Option (Int32) := f_X3_columnMask_0 x0 x1 x2
set_option maxHeartbeats 4000000 in
set_option maxRecDepth 100000 in
theorem c_X3_columnMask {l : Launch} {g : Geo} (x0 : Int32) (x1 : Int32) (x2 : Int32) (σ : St) {w : Int32} (h : f_X3_columnMask x0 x1 x2 = some w) : CtI l yX3_columnMask cX3_columnMask 5 (some .int) (rmm 0 0) g [.int (x0), .int (x1), .int (x2)] σ w σ := enI .int (by decide) rfl rfl (Nat.le_of_ble_eq_true rfl) (fun p e s m args below meth c Q X Y ls hl KR => w_X3_columnMask_0 X x0 x1 x2 σ KR Y hl h)
def I_X3_hasEmptyLine : List (Nat × Instr × Nat) := [(0, .iconst 0, 1), (1, .istore_n 3, 1), (2, .iload_n 3, 1), (3, .iload_n 1, 1), (4, .if_icmp .ge 21, 3), (7, .iload_n 2, 1), (8, .iload_n 0, 1), (9, .iload_n 3, 1), (10, .invokestatic 25, 3), (13, .iand, 1), (14, .ifCond .ne 5, 3), (17, .iconst 1, 1), (18, .ireturn, 1), (19, .iinc 3 1, 3), (22, .goto (-20), 3), (25, .iconst 0, 1), (26, .istore_n 3, 1), (27, .iload_n 3, 1), (28, .iload_n 0, 1), (29, .if_icmp .ge 22, 3), (32, .iload_n 2, 1), (33, .iload_n 0, 1), (34, .iload_n 1, 1), (35, .iload_n 3, 1), (36, .invokestatic 29, 3), (39, .iand, 1), (40, .ifCond .ne 5, 3), (43, .iconst 1, 1), (44, .ireturn, 1), (45, .iinc 3 1, 3), (48, .goto (-21), 3), (51, .iconst 0, 1), (52, .ireturn, 1)]
set_option maxRecDepth 100000 in
theorem T_X3_hasEmptyLine : ∀ q ∈ I_X3_hasEmptyLine, decode cX3_hasEmptyLine q.1 = .ok (q.2.1, q.2.2) := by decide +kernel
def f_X3_hasEmptyLine_l2 (x0 : Int32) (x1 : Int32) (x2 : Int32) (z : Int32) : Option ((Int32) ⊕ ((Unit) ⊕ (Unit))) :=
  if x1 ≤ z then some (.inr (.inl ())) else (f_X3_rowMask x0 z).bind fun q2 => if (x2 &&& q2) = 0 then some (.inr (.inr ())) else some (.inl (z + 1))
set_option maxHeartbeats 4000000 in
set_option maxRecDepth 100000 in
theorem w_X3_hasEmptyLine_l2 (X : Cx g RX3 cX3_hasEmptyLine 4 (some .boolean) p s m args meth c) (x0 : Int32) (x1 : Int32) (x2 : Int32) (σ : St) {r : (Unit) ⊕ (Unit)} (KX0 : ∀ (v : Unit), r = (.inl v) → ∀ (H : Heap) (locs : List Loc) (ls : Array Slot), Wd g s σ H locs → lv_has ls 4 [(0, .int (x0)), (1, .int (x1)), (2, .int (x2))] → W p l e (rmm 1 24) s m args below meth c H locs 0 0 Q (F0 m 25 ls [])) (KX1 : ∀ (v : Unit), r = (.inr v) → ∀ (H : Heap) (locs : List Loc) (ls : Array Slot), Wd g s σ H locs → lv_has ls 4 [] → W p l e (rmm 1 24) s m args below meth c H locs 0 0 Q (F0 m 17 ls [])) : ∀ (n : Nat) (z : Int32) {H : Heap} {locs : List Loc} {ls : Array Slot}, Wd g s σ H locs → lv_has ls 4 [(0, .int (x0)), (1, .int (x1)), (2, .int (x2)), (3, .int (z))] → lp (f_X3_hasEmptyLine_l2 x0 x1 x2) n z = some r → W p l e (rmm 1 24) s m args below meth c H locs 0 0 Q (F0 m 2 ls []) := by
  intro n
  induction n with
  | zero => intro z H locs ls Y hl h; cases h
  | succ n ih =>
    intro z H locs ls Y hl h
    obtain ⟨w, h, hw⟩ := lps h
    have KB : ∀ (v : Int32), w = .inl v → ∀ (H : Heap) (locs : List Loc) (ls : Array Slot), Wd g s σ H locs → lv_has ls 4 [(0, .int (x0)), (1, .int (x1)), (2, .int (x2)), (3, .int (v))] → W p l e (rmm 1 24) s m args below meth c H locs 0 0 Q (F0 m 2 ls []) := fun v e H locs ls Y hl => ih v Y hl (lpl hw e)
    have KX0 := fun (v : Unit) (e : w = .inr (.inl v)) => KX0 v (lpr hw e)
    have KX1 := fun (v : Unit) (e : w = .inr (.inr v)) => KX1 v (lpr hw e)
    unfold f_X3_hasEmptyLine_l2 at h
    refine lv_iload_n X.1 X.2.1 (dk T_X3_hasEmptyLine 2 rfl) rfl (lv_at hl 3 rfl) ?_
    refine lv_iload_n X.1 X.2.1 (dk T_X3_hasEmptyLine 3 rfl) rfl (lv_at hl 1 rfl) ?_
    refine lv_icmp_ge (tgt := 25) X.1 X.2.1 (dk T_X3_hasEmptyLine 4 rfl) rfl (fun c1 => ?_) (fun c1 => ?_)
    · replace h := ipos c1 h
      exact KX0 () (Option.some.inj h).symm _ _ _ Y (lv_sub hl [0, 1, 2] rfl)
    · replace h := ineg c1 h
      refine lv_iload_n X.1 X.2.1 (dk T_X3_hasEmptyLine 5 rfl) rfl (lv_at hl 2 rfl) ?_
      refine lv_iload_n X.1 X.2.1 (dk T_X3_hasEmptyLine 6 rfl) rfl (lv_at hl 0 rfl) ?_
      refine lv_iload_n X.1 X.2.1 (dk T_X3_hasEmptyLine 7 rfl) rfl (lv_at hl 3 rfl) ?_
      obtain ⟨q2, hq2, h⟩ := bs h
      refine gsI (rest := [.int (x2)]) X Y (c_X3_rowMask x0 z σ hq2) cb_X3_25 hl.1 rfl rfl (Nat.le_of_ble_eq_true rfl) ⟨Nat.le_of_ble_eq_true rfl, Nat.le_of_ble_eq_true rfl⟩ (dk T_X3_hasEmptyLine 8 rfl) (fun H locs Y => ?_)
      refine lv_iand X.1 X.2.1 (dk T_X3_hasEmptyLine 9 rfl) ?_
      refine lv_if_ne (tgt := 19) X.1 X.2.1 (dk T_X3_hasEmptyLine 10 rfl) rfl (fun c3 => ?_) (fun c3 => ?_)
      · replace h := ineg c3 h
        refine lv_iinc (v := z + 1) (lv' := [(3, .int (z + 1)), (0, .int (x0)), (1, .int (x1)), (2, .int (x2))]) X.1 X.2.1 (dk T_X3_hasEmptyLine 13 rfl) hl (k := 3) rfl (icx ic_1) (Nat.le_of_ble_eq_true rfl) rfl (fun ls hl => ?_)
        refine lv_goto (tgt := 2) X.1 X.2.1 (dk T_X3_hasEmptyLine 14 rfl) rfl ?_
        exact KB (z + 1) (Option.some.inj h).symm _ _ _ Y (lv_sub hl [1, 2, 3, 0] rfl)
      · replace h := ipos c3 h
        exact KX1 () (Option.some.inj h).symm _ _ _ Y (lv_sub hl [] rfl)
def f_X3_hasEmptyLine_l27 (x0 : Int32) (x1 : Int32) (x2 : Int32) (z : Int32) : Option ((Int32) ⊕ ((Unit) ⊕ (Unit))) :=
  if x0 ≤ z then some (.inr (.inl ())) else (f_X3_columnMask x0 x1 z).bind fun q7 => if (x2 &&& q7) = 0 then some (.inr (.inr ())) else some (.inl (z + 1))
set_option maxHeartbeats 4000000 in
set_option maxRecDepth 100000 in
theorem w_X3_hasEmptyLine_l27 (X : Cx g RX3 cX3_hasEmptyLine 4 (some .boolean) p s m args meth c) (x0 : Int32) (x1 : Int32) (x2 : Int32) (σ : St) {r : (Unit) ⊕ (Unit)} (KX0 : ∀ (v : Unit), r = (.inl v) → ∀ (H : Heap) (locs : List Loc) (ls : Array Slot), Wd g s σ H locs → lv_has ls 4 [] → W p l e (rmm 1 24) s m args below meth c H locs 0 0 Q (F0 m 51 ls [])) (KX1 : ∀ (v : Unit), r = (.inr v) → ∀ (H : Heap) (locs : List Loc) (ls : Array Slot), Wd g s σ H locs → lv_has ls 4 [] → W p l e (rmm 1 24) s m args below meth c H locs 0 0 Q (F0 m 43 ls [])) : ∀ (n : Nat) (z : Int32) {H : Heap} {locs : List Loc} {ls : Array Slot}, Wd g s σ H locs → lv_has ls 4 [(0, .int (x0)), (1, .int (x1)), (2, .int (x2)), (3, .int (z))] → lp (f_X3_hasEmptyLine_l27 x0 x1 x2) n z = some r → W p l e (rmm 1 24) s m args below meth c H locs 0 0 Q (F0 m 27 ls []) := by
  intro n
  induction n with
  | zero => intro z H locs ls Y hl h; cases h
  | succ n ih =>
    intro z H locs ls Y hl h
    obtain ⟨w, h, hw⟩ := lps h
    have KB : ∀ (v : Int32), w = .inl v → ∀ (H : Heap) (locs : List Loc) (ls : Array Slot), Wd g s σ H locs → lv_has ls 4 [(0, .int (x0)), (1, .int (x1)), (2, .int (x2)), (3, .int (v))] → W p l e (rmm 1 24) s m args below meth c H locs 0 0 Q (F0 m 27 ls []) := fun v e H locs ls Y hl => ih v Y hl (lpl hw e)
    have KX0 := fun (v : Unit) (e : w = .inr (.inl v)) => KX0 v (lpr hw e)
    have KX1 := fun (v : Unit) (e : w = .inr (.inr v)) => KX1 v (lpr hw e)
    unfold f_X3_hasEmptyLine_l27 at h
    refine lv_iload_n X.1 X.2.1 (dk T_X3_hasEmptyLine 17 rfl) rfl (lv_at hl 3 rfl) ?_
    refine lv_iload_n X.1 X.2.1 (dk T_X3_hasEmptyLine 18 rfl) rfl (lv_at hl 0 rfl) ?_
    refine lv_icmp_ge (tgt := 51) X.1 X.2.1 (dk T_X3_hasEmptyLine 19 rfl) rfl (fun c6 => ?_) (fun c6 => ?_)
    · replace h := ipos c6 h
      exact KX0 () (Option.some.inj h).symm _ _ _ Y (lv_sub hl [] rfl)
    · replace h := ineg c6 h
      refine lv_iload_n X.1 X.2.1 (dk T_X3_hasEmptyLine 20 rfl) rfl (lv_at hl 2 rfl) ?_
      refine lv_iload_n X.1 X.2.1 (dk T_X3_hasEmptyLine 21 rfl) rfl (lv_at hl 0 rfl) ?_
      refine lv_iload_n X.1 X.2.1 (dk T_X3_hasEmptyLine 22 rfl) rfl (lv_at hl 1 rfl) ?_
      refine lv_iload_n X.1 X.2.1 (dk T_X3_hasEmptyLine 23 rfl) rfl (lv_at hl 3 rfl) ?_
      obtain ⟨q7, hq7, h⟩ := bs h
      refine gsI (rest := [.int (x2)]) X Y (c_X3_columnMask x0 x1 z σ hq7) cb_X3_29 hl.1 rfl rfl (Nat.le_of_ble_eq_true rfl) ⟨Nat.le_of_ble_eq_true rfl, Nat.le_of_ble_eq_true rfl⟩ (dk T_X3_hasEmptyLine 24 rfl) (fun H locs Y => ?_)
      refine lv_iand X.1 X.2.1 (dk T_X3_hasEmptyLine 25 rfl) ?_
      refine lv_if_ne (tgt := 45) X.1 X.2.1 (dk T_X3_hasEmptyLine 26 rfl) rfl (fun c8 => ?_) (fun c8 => ?_)
      · replace h := ineg c8 h
        refine lv_iinc (v := z + 1) (lv' := [(3, .int (z + 1)), (0, .int (x0)), (1, .int (x1)), (2, .int (x2))]) X.1 X.2.1 (dk T_X3_hasEmptyLine 29 rfl) hl (k := 3) rfl (icx ic_1) (Nat.le_of_ble_eq_true rfl) rfl (fun ls hl => ?_)
        refine lv_goto (tgt := 27) X.1 X.2.1 (dk T_X3_hasEmptyLine 30 rfl) rfl ?_
        exact KB (z + 1) (Option.some.inj h).symm _ _ _ Y (lv_sub hl [1, 2, 3, 0] rfl)
      · replace h := ipos c8 h
        exact KX1 () (Option.some.inj h).symm _ _ _ Y (lv_sub hl [] rfl)
def f_X3_hasEmptyLine_0 (x0 : Int32) (x1 : Int32) (x2 : Int32) : Option (Int32) :=
  (lp (f_X3_hasEmptyLine_l2 x0 x1 x2) FU 0).bind fun q4 => Sum.elim (fun v5 => (lp (f_X3_hasEmptyLine_l27 x0 x1 x2) FU 0).bind fun q9 => Sum.elim (fun v10 => some 0) (fun v11 => some 1) q9) (fun v12 => some 1) q4
set_option maxHeartbeats 4000000 in
set_option maxRecDepth 100000 in
theorem w_X3_hasEmptyLine_0 (X : Cx g RX3 cX3_hasEmptyLine 4 (some .boolean) p s m args meth c) (x0 : Int32) (x1 : Int32) (x2 : Int32) (σ : St) {w : Int32} (KR : ∀ (H : Heap) (locs : List Loc) (ls : Array Slot) (pc : Nat), Wd g s σ H locs → decode cX3_hasEmptyLine pc = .ok (.ireturn, 1) → W p l e (rmm 1 24) s m args below meth c H locs 0 0 Q (F0 m pc ls [.int (w)])) {H : Heap} {locs : List Loc} {ls : Array Slot} (Y : Wd g s σ H locs) (hl : lv_has ls 4 [(0, .int (x0)), (1, .int (x1)), (2, .int (x2))]) (h : f_X3_hasEmptyLine_0 x0 x1 x2 = some w) : W p l e (rmm 1 24) s m args below meth c H locs 0 0 Q (F0 m 0 ls []) := by
  unfold f_X3_hasEmptyLine_0 at h
  refine lv_iconst (v := 0) X.1 X.2.1 (dk T_X3_hasEmptyLine 0 rfl) ic_0 ?_
  refine lv_istore_n (lv' := [(3, .int (0)), (0, .int (x0)), (1, .int (x1)), (2, .int (x2))]) X.1 X.2.1 (dk T_X3_hasEmptyLine 1 rfl) rfl hl (Nat.le_of_ble_eq_true rfl) rfl (fun ls hl => ?_)
  obtain ⟨q4, hq4, h⟩ := bs h
  refine w_X3_hasEmptyLine_l2 X x0 x1 x2 σ (fun v e H locs ls Y hl => ?_) (fun v e H locs ls Y hl => ?_) FU 0 Y (lv_sub hl [1, 2, 3, 0] rfl) hq4
  · obtain rfl := e
    replace h := sel h
    refine lv_iconst (v := 0) X.1 X.2.1 (dk T_X3_hasEmptyLine 15 rfl) ic_0 ?_
    refine lv_istore_n (lv' := [(3, .int (0)), (0, .int (x0)), (1, .int (x1)), (2, .int (x2))]) X.1 X.2.1 (dk T_X3_hasEmptyLine 16 rfl) rfl hl (Nat.le_of_ble_eq_true rfl) rfl (fun ls hl => ?_)
    obtain ⟨q9, hq9, h⟩ := bs h
    refine w_X3_hasEmptyLine_l27 X x0 x1 x2 σ (fun v e H locs ls Y hl => ?_) (fun v e H locs ls Y hl => ?_) FU 0 Y (lv_sub hl [1, 2, 3, 0] rfl) hq9
    · obtain rfl := e
      replace h := sel h
      refine lv_iconst (v := 0) X.1 X.2.1 (dk T_X3_hasEmptyLine 31 rfl) ic_0 ?_
      obtain rfl := Option.some.inj h
      exact KR _ _ _ _ Y (dk T_X3_hasEmptyLine 32 rfl)
    · obtain rfl := e
      replace h := ser h
      refine lv_iconst (v := 1) X.1 X.2.1 (dk T_X3_hasEmptyLine 27 rfl) ic_1 ?_
      obtain rfl := Option.some.inj h
      exact KR _ _ _ _ Y (dk T_X3_hasEmptyLine 28 rfl)
  · obtain rfl := e
    replace h := ser h
    refine lv_iconst (v := 1) X.1 X.2.1 (dk T_X3_hasEmptyLine 11 rfl) ic_1 ?_
    obtain rfl := Option.some.inj h
    exact KR _ _ _ _ Y (dk T_X3_hasEmptyLine 12 rfl)
def f_X3_hasEmptyLine (x0 : Int32) (x1 : Int32) (x2 : Int32) : Option (Int32) := bz (f_X3_hasEmptyLine_0 x0 x1 x2)
set_option maxHeartbeats 4000000 in
set_option maxRecDepth 100000 in
theorem c_X3_hasEmptyLine {l : Launch} {g : Geo} (x0 : Int32) (x1 : Int32) (x2 : Int32) (σ : St) {w : Int32} (h : f_X3_hasEmptyLine x0 x1 x2 = some w) : CtI l yX3_hasEmptyLine cX3_hasEmptyLine 4 (some .boolean) (rmm 1 24) g [.int (x0), .int (x1), .int (x2)] σ w σ := by
  obtain ⟨h, hz⟩ := bz_s h
  exact enI .boolean (by decide) rfl (bz_n hz) (Nat.le_of_ble_eq_true rfl) (fun p e s m args below meth c Q X Y ls hl KR => w_X3_hasEmptyLine_0 X x0 x1 x2 σ KR Y hl h)
def I_X3_isConnected : List (Nat × Instr × Nat) := [(0, .iload_n 0, 1), (1, .iload_n 1, 1), (2, .iconst 0, 1), (3, .invokestatic 29, 3), (6, .iconst (-1), 1), (7, .ixor, 1), (8, .istore_n 3, 1), (9, .iload_n 0, 1), (10, .iload_n 1, 1), (11, .iload_n 0, 1), (12, .iconst 1, 1), (13, .isub, 1), (14, .invokestatic 29, 3), (17, .iconst (-1), 1), (18, .ixor, 1), (19, .istore 4, 2), (21, .iload_n 2, 1), (22, .iload_n 2, 1), (23, .ineg, 1), (24, .iand, 1), (25, .istore 5, 2), (27, .iconst 1, 1), (28, .istore 6, 2), (30, .iload 6, 2), (32, .iload_n 0, 1), (33, .iload_n 1, 1), (34, .imul, 1), (35, .if_icmp .ge 48, 3), (38, .iload 5, 2), (40, .iload 4, 2), (42, .iand, 1), (43, .iconst 1, 1), (44, .ishl, 1), (45, .iload 5, 2), (47, .iload_n 3, 1), (48, .iand, 1), (49, .iconst 1, 1), (50, .ishr, 1), (51, .ior, 1), (52, .istore 7, 2), (54, .iload 5, 2), (56, .iload_n 0, 1), (57, .ishl, 1), (58, .iload 5, 2), (60, .iload_n 0, 1), (61, .ishr, 1), (62, .ior, 1), (63, .istore 8, 2), (65, .iload 5, 2), (67, .iload 7, 2), (69, .iload 8, 2), (71, .ior, 1), (72, .iload_n 2, 1), (73, .iand, 1), (74, .ior, 1), (75, .istore 5, 2), (77, .iinc 6 1, 3), (80, .goto (-50), 3), (83, .iload 5, 2), (85, .iload_n 2, 1), (86, .if_icmp .ne 7, 3), (89, .iconst 1, 1), (90, .goto 4, 3), (93, .iconst 0, 1), (94, .ireturn, 1)]
set_option maxRecDepth 100000 in
theorem T_X3_isConnected : ∀ q ∈ I_X3_isConnected, decode cX3_isConnected q.1 = .ok (q.2.1, q.2.2) := by decide +kernel
def f_X3_isConnected_l30 (x0 : Int32) (x1 : Int32) (x2 : Int32) (x3 : Int32) (x4 : Int32) (z : Int32 × Int32) : Option ((Int32 × Int32) ⊕ (Int32)) :=
  if (x0 * x1) ≤ z.2 then some (.inr z.1) else some (.inl (z.1 ||| (((((z.1 &&& x4) <<< (1 &&& 31)) ||| ((z.1 &&& x3) >>> (1 &&& 31))) ||| ((z.1 <<< (x0 &&& 31)) ||| (z.1 >>> (x0 &&& 31)))) &&& x2), z.2 + 1))
set_option maxHeartbeats 4000000 in
set_option maxRecDepth 100000 in
theorem w_X3_isConnected_l30 (X : Cx g RX3 cX3_isConnected 9 (some .boolean) p s m args meth c) (x0 : Int32) (x1 : Int32) (x2 : Int32) (x3 : Int32) (x4 : Int32) (σ : St) {r : Int32} (KX0 : ∀ (v : Int32), r = v → ∀ (H : Heap) (locs : List Loc) (ls : Array Slot), Wd g s σ H locs → lv_has ls 9 [(2, .int (x2)), (5, .int (v))] → W p l e (rmm 1 24) s m args below meth c H locs 0 0 Q (F0 m 83 ls [])) : ∀ (n : Nat) (z : Int32 × Int32) {H : Heap} {locs : List Loc} {ls : Array Slot}, Wd g s σ H locs → lv_has ls 9 [(0, .int (x0)), (1, .int (x1)), (2, .int (x2)), (3, .int (x3)), (4, .int (x4)), (5, .int (z.1)), (6, .int (z.2))] → lp (f_X3_isConnected_l30 x0 x1 x2 x3 x4) n z = some r → W p l e (rmm 1 24) s m args below meth c H locs 0 0 Q (F0 m 30 ls []) := by
  intro n
  induction n with
  | zero => intro z H locs ls Y hl h; cases h
  | succ n ih =>
    intro z H locs ls Y hl h
    obtain ⟨w, h, hw⟩ := lps h
    have KB : ∀ (v0_ : Int32) (v1_ : Int32), w = .inl (v0_, v1_) → ∀ (H : Heap) (locs : List Loc) (ls : Array Slot), Wd g s σ H locs → lv_has ls 9 [(0, .int (x0)), (1, .int (x1)), (2, .int (x2)), (3, .int (x3)), (4, .int (x4)), (5, .int (v0_)), (6, .int (v1_))] → W p l e (rmm 1 24) s m args below meth c H locs 0 0 Q (F0 m 30 ls []) := fun v0_ v1_ e H locs ls Y hl => ih (v0_, v1_) Y hl (lpl hw e)
    have KX0 := fun (v : Int32) (e : w = .inr v) => KX0 v (lpr hw e)
    unfold f_X3_isConnected_l30 at h
    refine lv_iload X.1 X.2.1 (dk T_X3_isConnected 23 rfl) (lv_at hl 6 rfl) ?_
    refine lv_iload_n X.1 X.2.1 (dk T_X3_isConnected 24 rfl) rfl (lv_at hl 0 rfl) ?_
    refine lv_iload_n X.1 X.2.1 (dk T_X3_isConnected 25 rfl) rfl (lv_at hl 1 rfl) ?_
    refine lv_imul X.1 X.2.1 (dk T_X3_isConnected 26 rfl) ?_
    refine lv_icmp_ge (tgt := 83) X.1 X.2.1 (dk T_X3_isConnected 27 rfl) rfl (fun c3 => ?_) (fun c3 => ?_)
    · replace h := ipos c3 h
      exact KX0 z.1 (Option.some.inj h).symm _ _ _ Y (lv_sub hl [2, 5] rfl)
    · replace h := ineg c3 h
      refine lv_iload X.1 X.2.1 (dk T_X3_isConnected 28 rfl) (lv_at hl 5 rfl) ?_
      refine lv_iload X.1 X.2.1 (dk T_X3_isConnected 29 rfl) (lv_at hl 4 rfl) ?_
      refine lv_iand X.1 X.2.1 (dk T_X3_isConnected 30 rfl) ?_
      refine lv_iconst (v := 1) X.1 X.2.1 (dk T_X3_isConnected 31 rfl) ic_1 ?_
      refine lv_ishl X.1 X.2.1 (dk T_X3_isConnected 32 rfl) ?_
      refine lv_iload X.1 X.2.1 (dk T_X3_isConnected 33 rfl) (lv_at hl 5 rfl) ?_
      refine lv_iload_n X.1 X.2.1 (dk T_X3_isConnected 34 rfl) rfl (lv_at hl 3 rfl) ?_
      refine lv_iand X.1 X.2.1 (dk T_X3_isConnected 35 rfl) ?_
      refine lv_iconst (v := 1) X.1 X.2.1 (dk T_X3_isConnected 36 rfl) ic_1 ?_
      refine lv_ishr X.1 X.2.1 (dk T_X3_isConnected 37 rfl) ?_
      refine lv_ior X.1 X.2.1 (dk T_X3_isConnected 38 rfl) ?_
      refine lv_istore (lv' := [(7, .int (((z.1 &&& x4) <<< (1 &&& 31)) ||| ((z.1 &&& x3) >>> (1 &&& 31)))), (0, .int (x0)), (1, .int (x1)), (2, .int (x2)), (3, .int (x3)), (4, .int (x4)), (5, .int (z.1)), (6, .int (z.2))]) X.1 X.2.1 (dk T_X3_isConnected 39 rfl) hl (Nat.le_of_ble_eq_true rfl) rfl (fun ls hl => ?_)
      refine lv_iload X.1 X.2.1 (dk T_X3_isConnected 40 rfl) (lv_at hl 6 rfl) ?_
      refine lv_iload_n X.1 X.2.1 (dk T_X3_isConnected 41 rfl) rfl (lv_at hl 1 rfl) ?_
      refine lv_ishl X.1 X.2.1 (dk T_X3_isConnected 42 rfl) ?_
      refine lv_iload X.1 X.2.1 (dk T_X3_isConnected 43 rfl) (lv_at hl 6 rfl) ?_
      refine lv_iload_n X.1 X.2.1 (dk T_X3_isConnected 44 rfl) rfl (lv_at hl 1 rfl) ?_
      refine lv_ishr X.1 X.2.1 (dk T_X3_isConnected 45 rfl) ?_
      refine lv_ior X.1 X.2.1 (dk T_X3_isConnected 46 rfl) ?_
      refine lv_istore (lv' := [(8, .int ((z.1 <<< (x0 &&& 31)) ||| (z.1 >>> (x0 &&& 31)))), (7, .int (((z.1 &&& x4) <<< (1 &&& 31)) ||| ((z.1 &&& x3) >>> (1 &&& 31)))), (0, .int (x0)), (1, .int (x1)), (2, .int (x2)), (3, .int (x3)), (4, .int (x4)), (5, .int (z.1)), (6, .int (z.2))]) X.1 X.2.1 (dk T_X3_isConnected 47 rfl) hl (Nat.le_of_ble_eq_true rfl) rfl (fun ls hl => ?_)
      refine lv_iload X.1 X.2.1 (dk T_X3_isConnected 48 rfl) (lv_at hl 7 rfl) ?_
      refine lv_iload X.1 X.2.1 (dk T_X3_isConnected 49 rfl) (lv_at hl 1 rfl) ?_
      refine lv_iload X.1 X.2.1 (dk T_X3_isConnected 50 rfl) (lv_at hl 0 rfl) ?_
      refine lv_ior X.1 X.2.1 (dk T_X3_isConnected 51 rfl) ?_
      refine lv_iload_n X.1 X.2.1 (dk T_X3_isConnected 52 rfl) rfl (lv_at hl 4 rfl) ?_
      refine lv_iand X.1 X.2.1 (dk T_X3_isConnected 53 rfl) ?_
      refine lv_ior X.1 X.2.1 (dk T_X3_isConnected 54 rfl) ?_
      refine lv_istore (lv' := [(5, .int (z.1 ||| (((((z.1 &&& x4) <<< (1 &&& 31)) ||| ((z.1 &&& x3) >>> (1 &&& 31))) ||| ((z.1 <<< (x0 &&& 31)) ||| (z.1 >>> (x0 &&& 31)))) &&& x2))), (8, .int ((z.1 <<< (x0 &&& 31)) ||| (z.1 >>> (x0 &&& 31)))), (7, .int (((z.1 &&& x4) <<< (1 &&& 31)) ||| ((z.1 &&& x3) >>> (1 &&& 31)))), (0, .int (x0)), (1, .int (x1)), (2, .int (x2)), (3, .int (x3)), (4, .int (x4)), (6, .int (z.2))]) X.1 X.2.1 (dk T_X3_isConnected 55 rfl) hl (Nat.le_of_ble_eq_true rfl) rfl (fun ls hl => ?_)
      refine lv_iinc (v := z.2 + 1) (lv' := [(6, .int (z.2 + 1)), (5, .int (z.1 ||| (((((z.1 &&& x4) <<< (1 &&& 31)) ||| ((z.1 &&& x3) >>> (1 &&& 31))) ||| ((z.1 <<< (x0 &&& 31)) ||| (z.1 >>> (x0 &&& 31)))) &&& x2))), (8, .int ((z.1 <<< (x0 &&& 31)) ||| (z.1 >>> (x0 &&& 31)))), (7, .int (((z.1 &&& x4) <<< (1 &&& 31)) ||| ((z.1 &&& x3) >>> (1 &&& 31)))), (0, .int (x0)), (1, .int (x1)), (2, .int (x2)), (3, .int (x3)), (4, .int (x4))]) X.1 X.2.1 (dk T_X3_isConnected 56 rfl) hl (k := 8) rfl (icx ic_1) (Nat.le_of_ble_eq_true rfl) rfl (fun ls hl => ?_)
      refine lv_goto (tgt := 30) X.1 X.2.1 (dk T_X3_isConnected 57 rfl) rfl ?_
      exact KB (z.1 ||| (((((z.1 &&& x4) <<< (1 &&& 31)) ||| ((z.1 &&& x3) >>> (1 &&& 31))) ||| ((z.1 <<< (x0 &&& 31)) ||| (z.1 >>> (x0 &&& 31)))) &&& x2)) (z.2 + 1) (Option.some.inj h).symm _ _ _ Y (lv_sub hl [4, 5, 6, 7, 8, 1, 0] rfl)
def f_X3_isConnected_0 (x0 : Int32) (x1 : Int32) (x2 : Int32) : Option (Int32) :=
  (f_X3_columnMask x0 x1 0).bind fun q1 => (f_X3_columnMask x0 x1 (x0 - 1)).bind fun q2 => (lp (f_X3_isConnected_l30 x0 x1 x2 (q1 ^^^ (-1)) (q2 ^^^ (-1))) FU (x2 &&& (-x2), 1)).bind fun q4 => if q4 = x2 then some 1 else some 0
set_option maxHeartbeats 4000000 in
set_option maxRecDepth 100000 in
theorem w_X3_isConnected_0 (X : Cx g RX3 cX3_isConnected 9 (some .boolean) p s m args meth c) (x0 : Int32) (x1 : Int32) (x2 : Int32) (σ : St) {w : Int32} (KR : ∀ (H : Heap) (locs : List Loc) (ls : Array Slot) (pc : Nat), Wd g s σ H locs → decode cX3_isConnected pc = .ok (.ireturn, 1) → W p l e (rmm 1 24) s m args below meth c H locs 0 0 Q (F0 m pc ls [.int (w)])) {H : Heap} {locs : List Loc} {ls : Array Slot} (Y : Wd g s σ H locs) (hl : lv_has ls 9 [(0, .int (x0)), (1, .int (x1)), (2, .int (x2))]) (h : f_X3_isConnected_0 x0 x1 x2 = some w) : W p l e (rmm 1 24) s m args below meth c H locs 0 0 Q (F0 m 0 ls []) := by
  unfold f_X3_isConnected_0 at h
  refine lv_iload_n X.1 X.2.1 (dk T_X3_isConnected 0 rfl) rfl (lv_at hl 0 rfl) ?_
  refine lv_iload_n X.1 X.2.1 (dk T_X3_isConnected 1 rfl) rfl (lv_at hl 1 rfl) ?_
  refine lv_iconst (v := 0) X.1 X.2.1 (dk T_X3_isConnected 2 rfl) ic_0 ?_
  obtain ⟨q1, hq1, h⟩ := bs h
  refine gsI (rest := []) X Y (c_X3_columnMask x0 x1 0 σ hq1) cb_X3_29 hl.1 rfl rfl (Nat.le_of_ble_eq_true rfl) ⟨Nat.le_of_ble_eq_true rfl, Nat.le_of_ble_eq_true rfl⟩ (dk T_X3_isConnected 3 rfl) (fun H locs Y => ?_)
  refine lv_iconst (v := (-1)) X.1 X.2.1 (dk T_X3_isConnected 4 rfl) ic_m1 ?_
  refine lv_ixor X.1 X.2.1 (dk T_X3_isConnected 5 rfl) ?_
  refine lv_istore_n (lv' := [(3, .int (q1 ^^^ (-1))), (0, .int (x0)), (1, .int (x1)), (2, .int (x2))]) X.1 X.2.1 (dk T_X3_isConnected 6 rfl) rfl hl (Nat.le_of_ble_eq_true rfl) rfl (fun ls hl => ?_)
  refine lv_iload_n X.1 X.2.1 (dk T_X3_isConnected 7 rfl) rfl (lv_at hl 1 rfl) ?_
  refine lv_iload_n X.1 X.2.1 (dk T_X3_isConnected 8 rfl) rfl (lv_at hl 2 rfl) ?_
  refine lv_iload_n X.1 X.2.1 (dk T_X3_isConnected 9 rfl) rfl (lv_at hl 1 rfl) ?_
  refine lv_iconst (v := 1) X.1 X.2.1 (dk T_X3_isConnected 10 rfl) ic_1 ?_
  refine lv_isub X.1 X.2.1 (dk T_X3_isConnected 11 rfl) ?_
  obtain ⟨q2, hq2, h⟩ := bs h
  refine gsI (rest := []) X Y (c_X3_columnMask x0 x1 (x0 - 1) σ hq2) cb_X3_29 hl.1 rfl rfl (Nat.le_of_ble_eq_true rfl) ⟨Nat.le_of_ble_eq_true rfl, Nat.le_of_ble_eq_true rfl⟩ (dk T_X3_isConnected 12 rfl) (fun H locs Y => ?_)
  refine lv_iconst (v := (-1)) X.1 X.2.1 (dk T_X3_isConnected 13 rfl) ic_m1 ?_
  refine lv_ixor X.1 X.2.1 (dk T_X3_isConnected 14 rfl) ?_
  refine lv_istore (lv' := [(4, .int (q2 ^^^ (-1))), (3, .int (q1 ^^^ (-1))), (0, .int (x0)), (1, .int (x1)), (2, .int (x2))]) X.1 X.2.1 (dk T_X3_isConnected 15 rfl) hl (Nat.le_of_ble_eq_true rfl) rfl (fun ls hl => ?_)
  refine lv_iload_n X.1 X.2.1 (dk T_X3_isConnected 16 rfl) rfl (lv_at hl 4 rfl) ?_
  refine lv_iload_n X.1 X.2.1 (dk T_X3_isConnected 17 rfl) rfl (lv_at hl 4 rfl) ?_
  refine lv_ineg X.1 X.2.1 (dk T_X3_isConnected 18 rfl) ?_
  refine lv_iand X.1 X.2.1 (dk T_X3_isConnected 19 rfl) ?_
  refine lv_istore (lv' := [(5, .int (x2 &&& (-x2))), (4, .int (q2 ^^^ (-1))), (3, .int (q1 ^^^ (-1))), (0, .int (x0)), (1, .int (x1)), (2, .int (x2))]) X.1 X.2.1 (dk T_X3_isConnected 20 rfl) hl (Nat.le_of_ble_eq_true rfl) rfl (fun ls hl => ?_)
  refine lv_iconst (v := 1) X.1 X.2.1 (dk T_X3_isConnected 21 rfl) ic_1 ?_
  refine lv_istore (lv' := [(6, .int (1)), (5, .int (x2 &&& (-x2))), (4, .int (q2 ^^^ (-1))), (3, .int (q1 ^^^ (-1))), (0, .int (x0)), (1, .int (x1)), (2, .int (x2))]) X.1 X.2.1 (dk T_X3_isConnected 22 rfl) hl (Nat.le_of_ble_eq_true rfl) rfl (fun ls hl => ?_)
  obtain ⟨q4, hq4, h⟩ := bs h
  refine w_X3_isConnected_l30 X x0 x1 x2 (q1 ^^^ (-1)) (q2 ^^^ (-1)) σ (fun v e H locs ls Y hl => ?_) FU (x2 &&& (-x2), 1) Y (lv_sub hl [4, 5, 6, 3, 2, 1, 0] rfl) hq4
  · obtain rfl := e
    refine lv_iload X.1 X.2.1 (dk T_X3_isConnected 58 rfl) (lv_at hl 1 rfl) ?_
    refine lv_iload_n X.1 X.2.1 (dk T_X3_isConnected 59 rfl) rfl (lv_at hl 0 rfl) ?_
    refine lv_icmp_ne (tgt := 93) X.1 X.2.1 (dk T_X3_isConnected 60 rfl) rfl (fun c5 => ?_) (fun c5 => ?_)
    · replace h := ineg c5 h
      refine lv_iconst (v := 0) X.1 X.2.1 (dk T_X3_isConnected 63 rfl) ic_0 ?_
      obtain rfl := Option.some.inj h
      exact KR _ _ _ _ Y (dk T_X3_isConnected 64 rfl)
    · replace h := ipos c5 h
      refine lv_iconst (v := 1) X.1 X.2.1 (dk T_X3_isConnected 61 rfl) ic_1 ?_
      refine lv_goto (tgt := 94) X.1 X.2.1 (dk T_X3_isConnected 62 rfl) rfl ?_
      obtain rfl := Option.some.inj h
      exact KR _ _ _ _ Y (dk T_X3_isConnected 64 rfl)
def f_X3_isConnected (x0 : Int32) (x1 : Int32) (x2 : Int32) : Option (Int32) := bz (f_X3_isConnected_0 x0 x1 x2)
set_option maxHeartbeats 4000000 in
set_option maxRecDepth 100000 in
theorem c_X3_isConnected {l : Launch} {g : Geo} (x0 : Int32) (x1 : Int32) (x2 : Int32) (σ : St) {w : Int32} (h : f_X3_isConnected x0 x1 x2 = some w) : CtI l yX3_isConnected cX3_isConnected 9 (some .boolean) (rmm 1 24) g [.int (x0), .int (x1), .int (x2)] σ w σ := by
  obtain ⟨h, hz⟩ := bz_s h
  exact enI .boolean (by decide) rfl (bz_n hz) (Nat.le_of_ble_eq_true rfl) (fun p e s m args below meth c Q X Y ls hl KR => w_X3_isConnected_0 X x0 x1 x2 σ KR Y hl h)
def I_X3_isShape : List (Nat × Instr × Nat) := [(0, .iload_n 0, 1), (1, .iconst 1, 1), (2, .iconst 4, 1), (3, .invokestatic 9, 3), (6, .ifCond .eq 12, 3), (9, .iload_n 1, 1), (10, .iconst 1, 1), (11, .iconst 4, 1), (12, .invokestatic 9, 3), (15, .ifCond .ne 5, 3), (18, .iconst 0, 1), (19, .ireturn, 1), (20, .iload_n 2, 1), (21, .ifCond .le 12, 3), (24, .iload_n 2, 1), (25, .iconst 1, 1), (26, .iload_n 0, 1), (27, .iload_n 1, 1), (28, .imul, 1), (29, .ishl, 1), (30, .if_icmp .lt 5, 3), (33, .iconst 0, 1), (34, .ireturn, 1), (35, .iload_n 0, 1), (36, .iload_n 1, 1), (37, .iload_n 2, 1), (38, .invokestatic 13, 3), (41, .ifCond .ne 16, 3), (44, .iload_n 0, 1), (45, .iload_n 1, 1), (46, .iload_n 2, 1), (47, .invokestatic 18, 3), (50, .ifCond .eq 7, 3), (53, .iconst 1, 1), (54, .goto 4, 3), (57, .iconst 0, 1), (58, .ireturn, 1)]
set_option maxRecDepth 100000 in
theorem T_X3_isShape : ∀ q ∈ I_X3_isShape, decode cX3_isShape q.1 = .ok (q.2.1, q.2.2) := by decide +kernel
def f_X3_isShape_0 (x0 : Int32) (x1 : Int32) (x2 : Int32) : Option (Int32) :=
  (f_X10_isWithin x0 1 4).bind fun q1 => if q1 = 0 then some 0 else (f_X10_isWithin x1 1 4).bind fun q3 => if q3 = 0 then some 0 else if x2 ≤ 0 then some 0 else if x2 < ((1 : Int32) <<< ((x0 * x1) &&& 31)) then (f_X3_hasEmptyLine x0 x1 x2).bind fun q7 => if q7 = 0 then (f_X3_isConnected x0 x1 x2).bind fun q9 => if q9 = 0 then some 0 else some 1 else some 0 else some 0
set_option maxHeartbeats 4000000 in
set_option maxRecDepth 100000 in
theorem w_X3_isShape_0 (X : Cx g RX3 cX3_isShape 3 (some .boolean) p s m args meth c) (x0 : Int32) (x1 : Int32) (x2 : Int32) (σ : St) {w : Int32} (KR : ∀ (H : Heap) (locs : List Loc) (ls : Array Slot) (pc : Nat), Wd g s σ H locs → decode cX3_isShape pc = .ok (.ireturn, 1) → W p l e (rmm 2 52) s m args below meth c H locs 0 0 Q (F0 m pc ls [.int (w)])) {H : Heap} {locs : List Loc} {ls : Array Slot} (Y : Wd g s σ H locs) (hl : lv_has ls 3 [(0, .int (x0)), (1, .int (x1)), (2, .int (x2))]) (h : f_X3_isShape_0 x0 x1 x2 = some w) : W p l e (rmm 2 52) s m args below meth c H locs 0 0 Q (F0 m 0 ls []) := by
  unfold f_X3_isShape_0 at h
  refine lv_iload_n X.1 X.2.1 (dk T_X3_isShape 0 rfl) rfl (lv_at hl 0 rfl) ?_
  refine lv_iconst (v := 1) X.1 X.2.1 (dk T_X3_isShape 1 rfl) ic_1 ?_
  refine lv_iconst (v := 4) X.1 X.2.1 (dk T_X3_isShape 2 rfl) ic_4 ?_
  obtain ⟨q1, hq1, h⟩ := bs h
  refine gsIN (rest := []) X Y (c_X10_isWithin x0 1 4 σ hq1) cb_X3_9 hl.1 rfl rfl (Nat.le_of_ble_eq_true rfl) ⟨Nat.le_of_ble_eq_true rfl, Nat.le_of_ble_eq_true rfl⟩ (dk T_X3_isShape 3 rfl) (fun H locs Y => ?_)
  refine lv_if_eq (tgt := 18) X.1 X.2.1 (dk T_X3_isShape 4 rfl) rfl (fun c2 => ?_) (fun c2 => ?_)
  · replace h := ipos c2 h
    refine lv_iconst (v := 0) X.1 X.2.1 (dk T_X3_isShape 10 rfl) ic_0 ?_
    obtain rfl := Option.some.inj h
    exact KR _ _ _ _ Y (dk T_X3_isShape 11 rfl)
  · replace h := ineg c2 h
    refine lv_iload_n X.1 X.2.1 (dk T_X3_isShape 5 rfl) rfl (lv_at hl 1 rfl) ?_
    refine lv_iconst (v := 1) X.1 X.2.1 (dk T_X3_isShape 6 rfl) ic_1 ?_
    refine lv_iconst (v := 4) X.1 X.2.1 (dk T_X3_isShape 7 rfl) ic_4 ?_
    obtain ⟨q3, hq3, h⟩ := bs h
    refine gsIN (rest := []) X Y (c_X10_isWithin x1 1 4 σ hq3) cb_X3_9 hl.1 rfl rfl (Nat.le_of_ble_eq_true rfl) ⟨Nat.le_of_ble_eq_true rfl, Nat.le_of_ble_eq_true rfl⟩ (dk T_X3_isShape 8 rfl) (fun H locs Y => ?_)
    refine lv_if_ne (tgt := 20) X.1 X.2.1 (dk T_X3_isShape 9 rfl) rfl (fun c4 => ?_) (fun c4 => ?_)
    · replace h := ineg c4 h
      refine lv_iload_n X.1 X.2.1 (dk T_X3_isShape 12 rfl) rfl (lv_at hl 2 rfl) ?_
      refine lv_if_le (tgt := 33) X.1 X.2.1 (dk T_X3_isShape 13 rfl) rfl (fun c5 => ?_) (fun c5 => ?_)
      · replace h := ipos c5 h
        refine lv_iconst (v := 0) X.1 X.2.1 (dk T_X3_isShape 21 rfl) ic_0 ?_
        obtain rfl := Option.some.inj h
        exact KR _ _ _ _ Y (dk T_X3_isShape 22 rfl)
      · replace h := ineg c5 h
        refine lv_iload_n X.1 X.2.1 (dk T_X3_isShape 14 rfl) rfl (lv_at hl 2 rfl) ?_
        refine lv_iconst (v := 1) X.1 X.2.1 (dk T_X3_isShape 15 rfl) ic_1 ?_
        refine lv_iload_n X.1 X.2.1 (dk T_X3_isShape 16 rfl) rfl (lv_at hl 0 rfl) ?_
        refine lv_iload_n X.1 X.2.1 (dk T_X3_isShape 17 rfl) rfl (lv_at hl 1 rfl) ?_
        refine lv_imul X.1 X.2.1 (dk T_X3_isShape 18 rfl) ?_
        refine lv_ishl X.1 X.2.1 (dk T_X3_isShape 19 rfl) ?_
        refine lv_icmp_lt (tgt := 35) X.1 X.2.1 (dk T_X3_isShape 20 rfl) rfl (fun c6 => ?_) (fun c6 => ?_)
        · replace h := ipos c6 h
          refine lv_iload_n X.1 X.2.1 (dk T_X3_isShape 23 rfl) rfl (lv_at hl 0 rfl) ?_
          refine lv_iload_n X.1 X.2.1 (dk T_X3_isShape 24 rfl) rfl (lv_at hl 1 rfl) ?_
          refine lv_iload_n X.1 X.2.1 (dk T_X3_isShape 25 rfl) rfl (lv_at hl 2 rfl) ?_
          obtain ⟨q7, hq7, h⟩ := bs h
          refine gsI (rest := []) X Y (c_X3_hasEmptyLine x0 x1 x2 σ hq7) cb_X3_13 hl.1 rfl rfl (Nat.le_of_ble_eq_true rfl) ⟨Nat.le_of_ble_eq_true rfl, Nat.le_of_ble_eq_true rfl⟩ (dk T_X3_isShape 26 rfl) (fun H locs Y => ?_)
          refine lv_if_ne (tgt := 57) X.1 X.2.1 (dk T_X3_isShape 27 rfl) rfl (fun c8 => ?_) (fun c8 => ?_)
          · replace h := ineg c8 h
            refine lv_iconst (v := 0) X.1 X.2.1 (dk T_X3_isShape 35 rfl) ic_0 ?_
            obtain rfl := Option.some.inj h
            exact KR _ _ _ _ Y (dk T_X3_isShape 36 rfl)
          · replace h := ipos c8 h
            refine lv_iload_n X.1 X.2.1 (dk T_X3_isShape 28 rfl) rfl (lv_at hl 0 rfl) ?_
            refine lv_iload_n X.1 X.2.1 (dk T_X3_isShape 29 rfl) rfl (lv_at hl 1 rfl) ?_
            refine lv_iload_n X.1 X.2.1 (dk T_X3_isShape 30 rfl) rfl (lv_at hl 2 rfl) ?_
            obtain ⟨q9, hq9, h⟩ := bs h
            refine gsI (rest := []) X Y (c_X3_isConnected x0 x1 x2 σ hq9) cb_X3_18 hl.1 rfl rfl (Nat.le_of_ble_eq_true rfl) ⟨Nat.le_of_ble_eq_true rfl, Nat.le_of_ble_eq_true rfl⟩ (dk T_X3_isShape 31 rfl) (fun H locs Y => ?_)
            refine lv_if_eq (tgt := 57) X.1 X.2.1 (dk T_X3_isShape 32 rfl) rfl (fun c10 => ?_) (fun c10 => ?_)
            · replace h := ipos c10 h
              refine lv_iconst (v := 0) X.1 X.2.1 (dk T_X3_isShape 35 rfl) ic_0 ?_
              obtain rfl := Option.some.inj h
              exact KR _ _ _ _ Y (dk T_X3_isShape 36 rfl)
            · replace h := ineg c10 h
              refine lv_iconst (v := 1) X.1 X.2.1 (dk T_X3_isShape 33 rfl) ic_1 ?_
              refine lv_goto (tgt := 58) X.1 X.2.1 (dk T_X3_isShape 34 rfl) rfl ?_
              obtain rfl := Option.some.inj h
              exact KR _ _ _ _ Y (dk T_X3_isShape 36 rfl)
        · replace h := ineg c6 h
          refine lv_iconst (v := 0) X.1 X.2.1 (dk T_X3_isShape 21 rfl) ic_0 ?_
          obtain rfl := Option.some.inj h
          exact KR _ _ _ _ Y (dk T_X3_isShape 22 rfl)
    · replace h := ipos c4 h
      refine lv_iconst (v := 0) X.1 X.2.1 (dk T_X3_isShape 10 rfl) ic_0 ?_
      obtain rfl := Option.some.inj h
      exact KR _ _ _ _ Y (dk T_X3_isShape 11 rfl)
def f_X3_isShape (x0 : Int32) (x1 : Int32) (x2 : Int32) : Option (Int32) := bz (f_X3_isShape_0 x0 x1 x2)
set_option maxHeartbeats 4000000 in
set_option maxRecDepth 100000 in
theorem c_X3_isShape {l : Launch} {g : Geo} (x0 : Int32) (x1 : Int32) (x2 : Int32) (σ : St) {w : Int32} (h : f_X3_isShape x0 x1 x2 = some w) : CtI l yX3_isShape cX3_isShape 3 (some .boolean) (rmm 2 52) g [.int (x0), .int (x1), .int (x2)] σ w σ := by
  obtain ⟨h, hz⟩ := bz_s h
  exact enI .boolean (by decide) rfl (bz_n hz) (Nat.le_of_ble_eq_true rfl) (fun p e s m args below meth c Q X Y ls hl KR => w_X3_isShape_0 X x0 x1 x2 σ KR Y hl h)
def I_X3_covers : List (Nat × Instr × Nat) := [(0, .iload_n 0, 1), (1, .iload_n 2, 1), (2, .iload_n 1, 1), (3, .iload_n 3, 1), (4, .imul, 1), (5, .iadd, 1), (6, .ishr, 1), (7, .iconst 1, 1), (8, .iand, 1), (9, .iconst 1, 1), (10, .if_icmp .ne 7, 3), (13, .iconst 1, 1), (14, .goto 4, 3), (17, .iconst 0, 1), (18, .ireturn, 1)]
set_option maxRecDepth 100000 in
theorem T_X3_covers : ∀ q ∈ I_X3_covers, decode cX3_covers q.1 = .ok (q.2.1, q.2.2) := by decide +kernel
def f_X3_covers_0 (x0 : Int32) (x1 : Int32) (x2 : Int32) (x3 : Int32) : Option (Int32) :=
  if ((x0 >>> ((x2 + (x1 * x3)) &&& 31)) &&& 1) = 1 then some 1 else some 0
set_option maxHeartbeats 4000000 in
set_option maxRecDepth 100000 in
theorem w_X3_covers_0 (X : Cx g RX3 cX3_covers 4 (some .boolean) p s m args meth c) (x0 : Int32) (x1 : Int32) (x2 : Int32) (x3 : Int32) (σ : St) {w : Int32} (KR : ∀ (H : Heap) (locs : List Loc) (ls : Array Slot) (pc : Nat), Wd g s σ H locs → decode cX3_covers pc = .ok (.ireturn, 1) → W p l e (rmm 0 0) s m args below meth c H locs 0 0 Q (F0 m pc ls [.int (w)])) {H : Heap} {locs : List Loc} {ls : Array Slot} (Y : Wd g s σ H locs) (hl : lv_has ls 4 [(0, .int (x0)), (1, .int (x1)), (2, .int (x2)), (3, .int (x3))]) (h : f_X3_covers_0 x0 x1 x2 x3 = some w) : W p l e (rmm 0 0) s m args below meth c H locs 0 0 Q (F0 m 0 ls []) := by
  unfold f_X3_covers_0 at h
  refine lv_iload_n X.1 X.2.1 (dk T_X3_covers 0 rfl) rfl (lv_at hl 0 rfl) ?_
  refine lv_iload_n X.1 X.2.1 (dk T_X3_covers 1 rfl) rfl (lv_at hl 2 rfl) ?_
  refine lv_iload_n X.1 X.2.1 (dk T_X3_covers 2 rfl) rfl (lv_at hl 1 rfl) ?_
  refine lv_iload_n X.1 X.2.1 (dk T_X3_covers 3 rfl) rfl (lv_at hl 3 rfl) ?_
  refine lv_imul X.1 X.2.1 (dk T_X3_covers 4 rfl) ?_
  refine lv_iadd X.1 X.2.1 (dk T_X3_covers 5 rfl) ?_
  refine lv_ishr X.1 X.2.1 (dk T_X3_covers 6 rfl) ?_
  refine lv_iconst (v := 1) X.1 X.2.1 (dk T_X3_covers 7 rfl) ic_1 ?_
  refine lv_iand X.1 X.2.1 (dk T_X3_covers 8 rfl) ?_
  refine lv_iconst (v := 1) X.1 X.2.1 (dk T_X3_covers 9 rfl) ic_1 ?_
  refine lv_icmp_ne (tgt := 17) X.1 X.2.1 (dk T_X3_covers 10 rfl) rfl (fun c1 => ?_) (fun c1 => ?_)
  · replace h := ineg c1 h
    refine lv_iconst (v := 0) X.1 X.2.1 (dk T_X3_covers 13 rfl) ic_0 ?_
    obtain rfl := Option.some.inj h
    exact KR _ _ _ _ Y (dk T_X3_covers 14 rfl)
  · replace h := ipos c1 h
    refine lv_iconst (v := 1) X.1 X.2.1 (dk T_X3_covers 11 rfl) ic_1 ?_
    refine lv_goto (tgt := 18) X.1 X.2.1 (dk T_X3_covers 12 rfl) rfl ?_
    obtain rfl := Option.some.inj h
    exact KR _ _ _ _ Y (dk T_X3_covers 14 rfl)
def f_X3_covers (x0 : Int32) (x1 : Int32) (x2 : Int32) (x3 : Int32) : Option (Int32) := bz (f_X3_covers_0 x0 x1 x2 x3)
set_option maxHeartbeats 4000000 in
set_option maxRecDepth 100000 in
theorem c_X3_covers {l : Launch} {g : Geo} (x0 : Int32) (x1 : Int32) (x2 : Int32) (x3 : Int32) (σ : St) {w : Int32} (h : f_X3_covers x0 x1 x2 x3 = some w) : CtI l yX3_covers cX3_covers 4 (some .boolean) (rmm 0 0) g [.int (x0), .int (x1), .int (x2), .int (x3)] σ w σ := by
  obtain ⟨h, hz⟩ := bz_s h
  exact enI .boolean (by decide) rfl (bz_n hz) (Nat.le_of_ble_eq_true rfl) (fun p e s m args below meth c Q X Y ls hl KR => w_X3_covers_0 X x0 x1 x2 x3 σ KR Y hl h)
def I_X3_quarterTurned : List (Nat × Instr × Nat) := [(0, .iconst 0, 1), (1, .istore_n 3, 1), (2, .iconst 0, 1), (3, .istore 4, 2), (5, .iload 4, 2), (7, .iload_n 0, 1), (8, .if_icmp .ge 52, 3), (11, .iconst 0, 1), (12, .istore 5, 2), (14, .iload 5, 2), (16, .iload_n 1, 1), (17, .if_icmp .ge 37, 3), (20, .iload_n 2, 1), (21, .iload_n 0, 1), (22, .iload 4, 2), (24, .iload_n 1, 1), (25, .iconst 1, 1), (26, .isub, 1), (27, .iload 5, 2), (29, .isub, 1), (30, .invokestatic 21, 3), (33, .ifCond .eq 15, 3), (36, .iload_n 3, 1), (37, .iconst 1, 1), (38, .iload 5, 2), (40, .iload_n 1, 1), (41, .iload 4, 2), (43, .imul, 1), (44, .iadd, 1), (45, .ishl, 1), (46, .ior, 1), (47, .istore_n 3, 1), (48, .iinc 5 1, 3), (51, .goto (-37), 3), (54, .iinc 4 1, 3), (57, .goto (-52), 3), (60, .iload_n 3, 1), (61, .ireturn, 1)]
set_option maxRecDepth 100000 in
theorem T_X3_quarterTurned : ∀ q ∈ I_X3_quarterTurned, decode cX3_quarterTurned q.1 = .ok (q.2.1, q.2.2) := by decide +kernel
def f_X3_quarterTurned_j48 (x0 : Int32) (x1 : Int32) (x2 : Int32) (x3 : Int32) (x4 : Int32) (x5 : Int32) : Option ((Int32 × Int32) ⊕ (Int32)) :=
  some (.inl (x3, x5 + 1))
set_option maxHeartbeats 4000000 in
set_option maxRecDepth 100000 in
theorem w_X3_quarterTurned_j48 (X : Cx g RX3 cX3_quarterTurned 6 (some .int) p s m args meth c) (x0 : Int32) (x1 : Int32) (x2 : Int32) (x3 : Int32) (x4 : Int32) (x5 : Int32) (σ : St) {w : (Int32 × Int32) ⊕ (Int32)} (KB : ∀ (v0_ : Int32) (v1_ : Int32), w = .inl (v0_, v1_) → ∀ (H : Heap) (locs : List Loc) (ls : Array Slot), Wd g s σ H locs → lv_has ls 6 [(0, .int (x0)), (1, .int (x1)), (2, .int (x2)), (3, .int (v0_)), (4, .int (x4)), (5, .int (v1_))] → W p l e (rmm 1 23) s m args below meth c H locs 0 0 Q (F0 m 14 ls [])) (KX0 : ∀ (v : Int32), w = .inr v → ∀ (H : Heap) (locs : List Loc) (ls : Array Slot), Wd g s σ H locs → lv_has ls 6 [(0, .int (x0)), (1, .int (x1)), (2, .int (x2)), (3, .int (v)), (4, .int (x4))] → W p l e (rmm 1 23) s m args below meth c H locs 0 0 Q (F0 m 54 ls [])) {H : Heap} {locs : List Loc} {ls : Array Slot} (Y : Wd g s σ H locs) (hl : lv_has ls 6 [(0, .int (x0)), (1, .int (x1)), (2, .int (x2)), (3, .int (x3)), (4, .int (x4)), (5, .int (x5))]) (h : f_X3_quarterTurned_j48 x0 x1 x2 x3 x4 x5 = some w) : W p l e (rmm 1 23) s m args below meth c H locs 0 0 Q (F0 m 48 ls []) := by
  unfold f_X3_quarterTurned_j48 at h
  refine lv_iinc (v := x5 + 1) (lv' := [(5, .int (x5 + 1)), (0, .int (x0)), (1, .int (x1)), (2, .int (x2)), (3, .int (x3)), (4, .int (x4))]) X.1 X.2.1 (dk T_X3_quarterTurned 32 rfl) hl (k := 5) rfl (icx ic_1) (Nat.le_of_ble_eq_true rfl) rfl (fun ls hl => ?_)
  refine lv_goto (tgt := 14) X.1 X.2.1 (dk T_X3_quarterTurned 33 rfl) rfl ?_
  exact KB x3 (x5 + 1) (Option.some.inj h).symm _ _ _ Y (lv_sub hl [1, 2, 3, 4, 5, 0] rfl)
def f_X3_quarterTurned_l14 (x0 : Int32) (x1 : Int32) (x2 : Int32) (x4 : Int32) (z : Int32 × Int32) : Option ((Int32 × Int32) ⊕ (Int32)) :=
  if x1 ≤ z.2 then some (.inr z.1) else (f_X3_covers x2 x0 x4 ((x1 - 1) - z.2)).bind fun q3 => if q3 = 0 then f_X3_quarterTurned_j48 x0 x1 x2 z.1 x4 z.2 else f_X3_quarterTurned_j48 x0 x1 x2 (z.1 ||| ((1 : Int32) <<< ((z.2 + (x1 * x4)) &&& 31))) x4 z.2
set_option maxHeartbeats 4000000 in
set_option maxRecDepth 100000 in
theorem w_X3_quarterTurned_l14 (X : Cx g RX3 cX3_quarterTurned 6 (some .int) p s m args meth c) (x0 : Int32) (x1 : Int32) (x2 : Int32) (x4 : Int32) (σ : St) {r : Int32} (KX0 : ∀ (v : Int32), r = v → ∀ (H : Heap) (locs : List Loc) (ls : Array Slot), Wd g s σ H locs → lv_has ls 6 [(0, .int (x0)), (1, .int (x1)), (2, .int (x2)), (3, .int (v)), (4, .int (x4))] → W p l e (rmm 1 23) s m args below meth c H locs 0 0 Q (F0 m 54 ls [])) : ∀ (n : Nat) (z : Int32 × Int32) {H : Heap} {locs : List Loc} {ls : Array Slot}, Wd g s σ H locs → lv_has ls 6 [(0, .int (x0)), (1, .int (x1)), (2, .int (x2)), (3, .int (z.1)), (4, .int (x4)), (5, .int (z.2))] → lp (f_X3_quarterTurned_l14 x0 x1 x2 x4) n z = some r → W p l e (rmm 1 23) s m args below meth c H locs 0 0 Q (F0 m 14 ls []) := by
  intro n
  induction n with
  | zero => intro z H locs ls Y hl h; cases h
  | succ n ih =>
    intro z H locs ls Y hl h
    obtain ⟨w, h, hw⟩ := lps h
    have KB : ∀ (v0_ : Int32) (v1_ : Int32), w = .inl (v0_, v1_) → ∀ (H : Heap) (locs : List Loc) (ls : Array Slot), Wd g s σ H locs → lv_has ls 6 [(0, .int (x0)), (1, .int (x1)), (2, .int (x2)), (3, .int (v0_)), (4, .int (x4)), (5, .int (v1_))] → W p l e (rmm 1 23) s m args below meth c H locs 0 0 Q (F0 m 14 ls []) := fun v0_ v1_ e H locs ls Y hl => ih (v0_, v1_) Y hl (lpl hw e)
    have KX0 := fun (v : Int32) (e : w = .inr v) => KX0 v (lpr hw e)
    unfold f_X3_quarterTurned_l14 at h
    refine lv_iload X.1 X.2.1 (dk T_X3_quarterTurned 9 rfl) (lv_at hl 5 rfl) ?_
    refine lv_iload_n X.1 X.2.1 (dk T_X3_quarterTurned 10 rfl) rfl (lv_at hl 1 rfl) ?_
    refine lv_icmp_ge (tgt := 54) X.1 X.2.1 (dk T_X3_quarterTurned 11 rfl) rfl (fun c2 => ?_) (fun c2 => ?_)
    · replace h := ipos c2 h
      exact KX0 z.1 (Option.some.inj h).symm _ _ _ Y (lv_sub hl [0, 1, 2, 3, 4] rfl)
    · replace h := ineg c2 h
      refine lv_iload_n X.1 X.2.1 (dk T_X3_quarterTurned 12 rfl) rfl (lv_at hl 2 rfl) ?_
      refine lv_iload_n X.1 X.2.1 (dk T_X3_quarterTurned 13 rfl) rfl (lv_at hl 0 rfl) ?_
      refine lv_iload X.1 X.2.1 (dk T_X3_quarterTurned 14 rfl) (lv_at hl 4 rfl) ?_
      refine lv_iload_n X.1 X.2.1 (dk T_X3_quarterTurned 15 rfl) rfl (lv_at hl 1 rfl) ?_
      refine lv_iconst (v := 1) X.1 X.2.1 (dk T_X3_quarterTurned 16 rfl) ic_1 ?_
      refine lv_isub X.1 X.2.1 (dk T_X3_quarterTurned 17 rfl) ?_
      refine lv_iload X.1 X.2.1 (dk T_X3_quarterTurned 18 rfl) (lv_at hl 5 rfl) ?_
      refine lv_isub X.1 X.2.1 (dk T_X3_quarterTurned 19 rfl) ?_
      obtain ⟨q3, hq3, h⟩ := bs h
      refine gsI (rest := []) X Y (c_X3_covers x2 x0 x4 ((x1 - 1) - z.2) σ hq3) cb_X3_21 hl.1 rfl rfl (Nat.le_of_ble_eq_true rfl) ⟨Nat.le_of_ble_eq_true rfl, Nat.le_of_ble_eq_true rfl⟩ (dk T_X3_quarterTurned 20 rfl) (fun H locs Y => ?_)
      refine lv_if_eq (tgt := 48) X.1 X.2.1 (dk T_X3_quarterTurned 21 rfl) rfl (fun c4 => ?_) (fun c4 => ?_)
      · replace h := ipos c4 h
        exact w_X3_quarterTurned_j48 X x0 x1 x2 z.1 x4 z.2 σ KB KX0 Y (lv_sub hl [0, 1, 2, 3, 4, 5] rfl) h
      · replace h := ineg c4 h
        refine lv_iload_n X.1 X.2.1 (dk T_X3_quarterTurned 22 rfl) rfl (lv_at hl 3 rfl) ?_
        refine lv_iconst (v := 1) X.1 X.2.1 (dk T_X3_quarterTurned 23 rfl) ic_1 ?_
        refine lv_iload X.1 X.2.1 (dk T_X3_quarterTurned 24 rfl) (lv_at hl 5 rfl) ?_
        refine lv_iload_n X.1 X.2.1 (dk T_X3_quarterTurned 25 rfl) rfl (lv_at hl 1 rfl) ?_
        refine lv_iload X.1 X.2.1 (dk T_X3_quarterTurned 26 rfl) (lv_at hl 4 rfl) ?_
        refine lv_imul X.1 X.2.1 (dk T_X3_quarterTurned 27 rfl) ?_
        refine lv_iadd X.1 X.2.1 (dk T_X3_quarterTurned 28 rfl) ?_
        refine lv_ishl X.1 X.2.1 (dk T_X3_quarterTurned 29 rfl) ?_
        refine lv_ior X.1 X.2.1 (dk T_X3_quarterTurned 30 rfl) ?_
        refine lv_istore_n (lv' := [(3, .int (z.1 ||| ((1 : Int32) <<< ((z.2 + (x1 * x4)) &&& 31)))), (0, .int (x0)), (1, .int (x1)), (2, .int (x2)), (4, .int (x4)), (5, .int (z.2))]) X.1 X.2.1 (dk T_X3_quarterTurned 31 rfl) rfl hl (Nat.le_of_ble_eq_true rfl) rfl (fun ls hl => ?_)
        exact w_X3_quarterTurned_j48 X x0 x1 x2 (z.1 ||| ((1 : Int32) <<< ((z.2 + (x1 * x4)) &&& 31))) x4 z.2 σ KB KX0 Y (lv_sub hl [1, 2, 3, 0, 4, 5] rfl) h
def f_X3_quarterTurned_l5 (x0 : Int32) (x1 : Int32) (x2 : Int32) (z : Int32 × Int32) : Option ((Int32 × Int32) ⊕ (Int32)) :=
  if x0 ≤ z.2 then some (.inr z.1) else (lp (f_X3_quarterTurned_l14 x0 x1 x2 z.2) FU (z.1, 0)).bind fun q5 => some (.inl (q5, z.2 + 1))
set_option maxHeartbeats 4000000 in
set_option maxRecDepth 100000 in
theorem w_X3_quarterTurned_l5 (X : Cx g RX3 cX3_quarterTurned 6 (some .int) p s m args meth c) (x0 : Int32) (x1 : Int32) (x2 : Int32) (σ : St) {r : Int32} (KX0 : ∀ (v : Int32), r = v → ∀ (H : Heap) (locs : List Loc) (ls : Array Slot), Wd g s σ H locs → lv_has ls 6 [(3, .int (v))] → W p l e (rmm 1 23) s m args below meth c H locs 0 0 Q (F0 m 60 ls [])) : ∀ (n : Nat) (z : Int32 × Int32) {H : Heap} {locs : List Loc} {ls : Array Slot}, Wd g s σ H locs → lv_has ls 6 [(0, .int (x0)), (1, .int (x1)), (2, .int (x2)), (3, .int (z.1)), (4, .int (z.2))] → lp (f_X3_quarterTurned_l5 x0 x1 x2) n z = some r → W p l e (rmm 1 23) s m args below meth c H locs 0 0 Q (F0 m 5 ls []) := by
  intro n
  induction n with
  | zero => intro z H locs ls Y hl h; cases h
  | succ n ih =>
    intro z H locs ls Y hl h
    obtain ⟨w, h, hw⟩ := lps h
    have KB : ∀ (v0_ : Int32) (v1_ : Int32), w = .inl (v0_, v1_) → ∀ (H : Heap) (locs : List Loc) (ls : Array Slot), Wd g s σ H locs → lv_has ls 6 [(0, .int (x0)), (1, .int (x1)), (2, .int (x2)), (3, .int (v0_)), (4, .int (v1_))] → W p l e (rmm 1 23) s m args below meth c H locs 0 0 Q (F0 m 5 ls []) := fun v0_ v1_ e H locs ls Y hl => ih (v0_, v1_) Y hl (lpl hw e)
    have KX0 := fun (v : Int32) (e : w = .inr v) => KX0 v (lpr hw e)
    unfold f_X3_quarterTurned_l5 at h
    refine lv_iload X.1 X.2.1 (dk T_X3_quarterTurned 4 rfl) (lv_at hl 4 rfl) ?_
    refine lv_iload_n X.1 X.2.1 (dk T_X3_quarterTurned 5 rfl) rfl (lv_at hl 0 rfl) ?_
    refine lv_icmp_ge (tgt := 60) X.1 X.2.1 (dk T_X3_quarterTurned 6 rfl) rfl (fun c1 => ?_) (fun c1 => ?_)
    · replace h := ipos c1 h
      exact KX0 z.1 (Option.some.inj h).symm _ _ _ Y (lv_sub hl [3] rfl)
    · replace h := ineg c1 h
      refine lv_iconst (v := 0) X.1 X.2.1 (dk T_X3_quarterTurned 7 rfl) ic_0 ?_
      refine lv_istore (lv' := [(5, .int (0)), (0, .int (x0)), (1, .int (x1)), (2, .int (x2)), (3, .int (z.1)), (4, .int (z.2))]) X.1 X.2.1 (dk T_X3_quarterTurned 8 rfl) hl (Nat.le_of_ble_eq_true rfl) rfl (fun ls hl => ?_)
      obtain ⟨q5, hq5, h⟩ := bs h
      refine w_X3_quarterTurned_l14 X x0 x1 x2 z.2 σ (fun v e H locs ls Y hl => ?_) FU (z.1, 0) Y (lv_sub hl [1, 2, 3, 4, 5, 0] rfl) hq5
      · obtain rfl := e
        refine lv_iinc (v := z.2 + 1) (lv' := [(4, .int (z.2 + 1)), (0, .int (x0)), (1, .int (x1)), (2, .int (x2)), (3, .int (q5))]) X.1 X.2.1 (dk T_X3_quarterTurned 34 rfl) hl (k := 4) rfl (icx ic_1) (Nat.le_of_ble_eq_true rfl) rfl (fun ls hl => ?_)
        refine lv_goto (tgt := 5) X.1 X.2.1 (dk T_X3_quarterTurned 35 rfl) rfl ?_
        exact KB q5 (z.2 + 1) (Option.some.inj h).symm _ _ _ Y (lv_sub hl [1, 2, 3, 4, 0] rfl)
def f_X3_quarterTurned_0 (x0 : Int32) (x1 : Int32) (x2 : Int32) : Option (Int32) :=
  (lp (f_X3_quarterTurned_l5 x0 x1 x2) FU (0, 0)).bind fun q6 => some q6
set_option maxHeartbeats 4000000 in
set_option maxRecDepth 100000 in
theorem w_X3_quarterTurned_0 (X : Cx g RX3 cX3_quarterTurned 6 (some .int) p s m args meth c) (x0 : Int32) (x1 : Int32) (x2 : Int32) (σ : St) {w : Int32} (KR : ∀ (H : Heap) (locs : List Loc) (ls : Array Slot) (pc : Nat), Wd g s σ H locs → decode cX3_quarterTurned pc = .ok (.ireturn, 1) → W p l e (rmm 1 23) s m args below meth c H locs 0 0 Q (F0 m pc ls [.int (w)])) {H : Heap} {locs : List Loc} {ls : Array Slot} (Y : Wd g s σ H locs) (hl : lv_has ls 6 [(0, .int (x0)), (1, .int (x1)), (2, .int (x2))]) (h : f_X3_quarterTurned_0 x0 x1 x2 = some w) : W p l e (rmm 1 23) s m args below meth c H locs 0 0 Q (F0 m 0 ls []) := by
  unfold f_X3_quarterTurned_0 at h
  refine lv_iconst (v := 0) X.1 X.2.1 (dk T_X3_quarterTurned 0 rfl) ic_0 ?_
  refine lv_istore_n (lv' := [(3, .int (0)), (0, .int (x0)), (1, .int (x1)), (2, .int (x2))]) X.1 X.2.1 (dk T_X3_quarterTurned 1 rfl) rfl hl (Nat.le_of_ble_eq_true rfl) rfl (fun ls hl => ?_)
  refine lv_iconst (v := 0) X.1 X.2.1 (dk T_X3_quarterTurned 2 rfl) ic_0 ?_
  refine lv_istore (lv' := [(4, .int (0)), (3, .int (0)), (0, .int (x0)), (1, .int (x1)), (2, .int (x2))]) X.1 X.2.1 (dk T_X3_quarterTurned 3 rfl) hl (Nat.le_of_ble_eq_true rfl) rfl (fun ls hl => ?_)
  obtain ⟨q6, hq6, h⟩ := bs h
  refine w_X3_quarterTurned_l5 X x0 x1 x2 σ (fun v e H locs ls Y hl => ?_) FU (0, 0) Y (lv_sub hl [2, 3, 4, 1, 0] rfl) hq6
  · obtain rfl := e
    refine lv_iload_n X.1 X.2.1 (dk T_X3_quarterTurned 36 rfl) rfl (lv_at hl 0 rfl) ?_
    obtain rfl := Option.some.inj h
    exact KR _ _ _ _ Y (dk T_X3_quarterTurned 37 rfl)
def f_X3_quarterTurned (x0 : Int32) (x1 : Int32) (x2 : Int32) : Option (Int32) := f_X3_quarterTurned_0 x0 x1 x2
set_option maxHeartbeats 4000000 in
set_option maxRecDepth 100000 in
theorem c_X3_quarterTurned {l : Launch} {g : Geo} (x0 : Int32) (x1 : Int32) (x2 : Int32) (σ : St) {w : Int32} (h : f_X3_quarterTurned x0 x1 x2 = some w) : CtI l yX3_quarterTurned cX3_quarterTurned 6 (some .int) (rmm 1 23) g [.int (x0), .int (x1), .int (x2)] σ w σ := enI .int (by decide) rfl rfl (Nat.le_of_ble_eq_true rfl) (fun p e s m args below meth c Q X Y ls hl KR => w_X3_quarterTurned_0 X x0 x1 x2 σ KR Y hl h)
def I_X9_has : List (Nat × Instr × Nat) := [(0, .iload_n 1, 1), (1, .ifCond .lt 15, 3), (4, .iload_n 1, 1), (5, .aload_n 0, 1), (6, .getfield 17, 3), (9, .if_icmp .ge 7, 3), (12, .iconst 1, 1), (13, .goto 4, 3), (16, .iconst 0, 1), (17, .ireturn, 1)]
set_option maxRecDepth 100000 in
theorem T_X9_has : ∀ q ∈ I_X9_has, decode cX9_has q.1 = .ok (q.2.1, q.2.2) := by decide +kernel
def f_X9_has_0 (t0 : Nat) (x1 : Int32) (σ : St) : Option (Int32) :=
  if x1 < 0 then some 0 else if (σ t0 2) ≤ x1 then some 0 else some 1
set_option maxHeartbeats 4000000 in
set_option maxRecDepth 100000 in
theorem w_X9_has_0 (X : Cx g RX9 cX9_has 2 (some .boolean) p s m args meth c) (t0 : Nat) (hk0 : kd t0 = 10) (x1 : Int32) (σ : St) {w : Int32} (KR : ∀ (H : Heap) (locs : List Loc) (ls : Array Slot) (pc : Nat), Wd g s σ H locs → decode cX9_has pc = .ok (.ireturn, 1) → W p l e (rmm 0 0) s m args below meth c H locs 0 0 Q (F0 m pc ls [.int (w)])) {H : Heap} {locs : List Loc} {ls : Array Slot} (Y : Wd g s σ H locs) (hl : lv_has ls 2 [(0, .ref (g.2.2 (t0))), (1, .int (x1))]) (h : f_X9_has_0 t0 x1 σ = some w) : W p l e (rmm 0 0) s m args below meth c H locs 0 0 Q (F0 m 0 ls []) := by
  unfold f_X9_has_0 at h
  refine lv_iload_n X.1 X.2.1 (dk T_X9_has 0 rfl) rfl (lv_at hl 1 rfl) ?_
  refine lv_if_lt (tgt := 16) X.1 X.2.1 (dk T_X9_has 1 rfl) rfl (fun c1 => ?_) (fun c1 => ?_)
  · replace h := ipos c1 h
    refine lv_iconst (v := 0) X.1 X.2.1 (dk T_X9_has 8 rfl) ic_0 ?_
    obtain rfl := Option.some.inj h
    exact KR _ _ _ _ Y (dk T_X9_has 9 rfl)
  · replace h := ineg c1 h
    refine lv_iload_n X.1 X.2.1 (dk T_X9_has 2 rfl) rfl (lv_at hl 1 rfl) ?_
    refine lv_aload_n X.1 X.2.1 (dk T_X9_has 3 rfl) rfl (lv_at hl 0 rfl) ?_
    refine gg X Y fl_X9_17 hk0 rfl (dk T_X9_has 4 rfl) ?_
    refine lv_icmp_ge (tgt := 16) X.1 X.2.1 (dk T_X9_has 5 rfl) rfl (fun c2 => ?_) (fun c2 => ?_)
    · replace h := ipos c2 h
      refine lv_iconst (v := 0) X.1 X.2.1 (dk T_X9_has 8 rfl) ic_0 ?_
      obtain rfl := Option.some.inj h
      exact KR _ _ _ _ Y (dk T_X9_has 9 rfl)
    · replace h := ineg c2 h
      refine lv_iconst (v := 1) X.1 X.2.1 (dk T_X9_has 6 rfl) ic_1 ?_
      refine lv_goto (tgt := 17) X.1 X.2.1 (dk T_X9_has 7 rfl) rfl ?_
      obtain rfl := Option.some.inj h
      exact KR _ _ _ _ Y (dk T_X9_has 9 rfl)
def f_X9_has (t0 : Nat) (x1 : Int32) (σ : St) : Option (Int32) := bz (f_X9_has_0 t0 x1 σ)
set_option maxHeartbeats 4000000 in
set_option maxRecDepth 100000 in
theorem c_X9_has {l : Launch} {g : Geo} (t0 : Nat) (hk0 : kd t0 = 10) (x1 : Int32) (σ : St) {w : Int32} (h : f_X9_has t0 x1 σ = some w) : CtI l yX9_has cX9_has 2 (some .boolean) (rmm 0 0) g [.ref (g.2.2 (t0)), .int (x1)] σ w σ := by
  obtain ⟨h, hz⟩ := bz_s h
  exact enI .boolean (by decide) rfl (bz_n hz) (Nat.le_of_ble_eq_true rfl) (fun p e s m args below meth c Q X Y ls hl KR => w_X9_has_0 X t0 hk0 x1 σ KR Y hl h)
def I_X9_get : List (Nat × Instr × Nat) := [(0, .iload_n 1, 1), (1, .aload_n 0, 1), (2, .getfield 7, 3), (5, .imul, 1), (6, .iload_n 2, 1), (7, .iadd, 1), (8, .istore_n 3, 1), (9, .iload_n 3, 1), (10, .ifCond .lt 21, 3), (13, .iload_n 3, 1), (14, .aload_n 0, 1), (15, .getfield 13, 3), (18, .arraylength, 1), (19, .if_icmp .ge 12, 3), (22, .aload_n 0, 1), (23, .getfield 13, 3), (26, .iload_n 3, 1), (27, .iaload, 1), (28, .goto 4, 3), (31, .iconst 0, 1), (32, .ireturn, 1)]
set_option maxRecDepth 100000 in
theorem T_X9_get : ∀ q ∈ I_X9_get, decode cX9_get q.1 = .ok (q.2.1, q.2.2) := by decide +kernel
def f_X9_get_0 (t0 : Nat) (x1 : Int32) (x2 : Int32) (σ : St) : Option (Int32) :=
  if ((x1 * (σ t0 0)) + x2) < 0 then some 0 else if (Int32.ofNat (ln (t0 + 1))) ≤ ((x1 * (σ t0 0)) + x2) then some 0 else chk (inb ((x1 * (σ t0 0)) + x2) (ln (t0 + 1))) (some (σ (t0 + 1) ((x1 * (σ t0 0)) + x2).toNatClampNeg))
set_option maxHeartbeats 4000000 in
set_option maxRecDepth 100000 in
theorem w_X9_get_0 (X : Cx g RX9 cX9_get 4 (some .int) p s m args meth c) (t0 : Nat) (hk0 : kd t0 = 10) (x1 : Int32) (x2 : Int32) (σ : St) {w : Int32} (KR : ∀ (H : Heap) (locs : List Loc) (ls : Array Slot) (pc : Nat), Wd g s σ H locs → decode cX9_get pc = .ok (.ireturn, 1) → W p l e (rmm 0 0) s m args below meth c H locs 0 0 Q (F0 m pc ls [.int (w)])) {H : Heap} {locs : List Loc} {ls : Array Slot} (Y : Wd g s σ H locs) (hl : lv_has ls 4 [(0, .ref (g.2.2 (t0))), (1, .int (x1)), (2, .int (x2))]) (h : f_X9_get_0 t0 x1 x2 σ = some w) : W p l e (rmm 0 0) s m args below meth c H locs 0 0 Q (F0 m 0 ls []) := by
  unfold f_X9_get_0 at h
  refine lv_iload_n X.1 X.2.1 (dk T_X9_get 0 rfl) rfl (lv_at hl 1 rfl) ?_
  refine lv_aload_n X.1 X.2.1 (dk T_X9_get 1 rfl) rfl (lv_at hl 0 rfl) ?_
  refine gg X Y fl_X9_7 hk0 rfl (dk T_X9_get 2 rfl) ?_
  refine lv_imul X.1 X.2.1 (dk T_X9_get 3 rfl) ?_
  refine lv_iload_n X.1 X.2.1 (dk T_X9_get 4 rfl) rfl (lv_at hl 2 rfl) ?_
  refine lv_iadd X.1 X.2.1 (dk T_X9_get 5 rfl) ?_
  refine lv_istore_n (lv' := [(3, .int ((x1 * (σ t0 0)) + x2)), (0, .ref (g.2.2 (t0))), (1, .int (x1)), (2, .int (x2))]) X.1 X.2.1 (dk T_X9_get 6 rfl) rfl hl (Nat.le_of_ble_eq_true rfl) rfl (fun ls hl => ?_)
  refine lv_iload_n X.1 X.2.1 (dk T_X9_get 7 rfl) rfl (lv_at hl 0 rfl) ?_
  refine lv_if_lt (tgt := 31) X.1 X.2.1 (dk T_X9_get 8 rfl) rfl (fun c1 => ?_) (fun c1 => ?_)
  · replace h := ipos c1 h
    refine lv_iconst (v := 0) X.1 X.2.1 (dk T_X9_get 19 rfl) ic_0 ?_
    obtain rfl := Option.some.inj h
    exact KR _ _ _ _ Y (dk T_X9_get 20 rfl)
  · replace h := ineg c1 h
    refine lv_iload_n X.1 X.2.1 (dk T_X9_get 9 rfl) rfl (lv_at hl 0 rfl) ?_
    refine lv_aload_n X.1 X.2.1 (dk T_X9_get 10 rfl) rfl (lv_at hl 1 rfl) ?_
    refine gg X Y fl_X9_13 hk0 rfl (dk T_X9_get 11 rfl) ?_
    refine gal X Y (i := 0) (v := Int32.ofNat (ln (t0 + 1))) (kt1 hk0) (Nat.le_of_ble_eq_true rfl) rfl (dk T_X9_get 12 rfl) ?_
    refine lv_icmp_ge (tgt := 31) X.1 X.2.1 (dk T_X9_get 13 rfl) rfl (fun c2 => ?_) (fun c2 => ?_)
    · replace h := ipos c2 h
      refine lv_iconst (v := 0) X.1 X.2.1 (dk T_X9_get 19 rfl) ic_0 ?_
      obtain rfl := Option.some.inj h
      exact KR _ _ _ _ Y (dk T_X9_get 20 rfl)
    · replace h := ineg c2 h
      refine lv_aload_n X.1 X.2.1 (dk T_X9_get 14 rfl) rfl (lv_at hl 1 rfl) ?_
      refine gg X Y fl_X9_13 hk0 rfl (dk T_X9_get 15 rfl) ?_
      refine lv_iload_n X.1 X.2.1 (dk T_X9_get 16 rfl) rfl (lv_at hl 0 rfl) ?_
      obtain ⟨g3, h⟩ := gd h
      refine gil X Y (kt1 hk0) (inp g3) (dk T_X9_get 17 rfl) ?_
      refine lv_goto (tgt := 32) X.1 X.2.1 (dk T_X9_get 18 rfl) rfl ?_
      obtain rfl := Option.some.inj h
      exact KR _ _ _ _ Y (dk T_X9_get 20 rfl)
def f_X9_get (t0 : Nat) (x1 : Int32) (x2 : Int32) (σ : St) : Option (Int32) := f_X9_get_0 t0 x1 x2 σ
set_option maxHeartbeats 4000000 in
set_option maxRecDepth 100000 in
theorem c_X9_get {l : Launch} {g : Geo} (t0 : Nat) (hk0 : kd t0 = 10) (x1 : Int32) (x2 : Int32) (σ : St) {w : Int32} (h : f_X9_get t0 x1 x2 σ = some w) : CtI l yX9_get cX9_get 4 (some .int) (rmm 0 0) g [.ref (g.2.2 (t0)), .int (x1), .int (x2)] σ w σ := enI .int (by decide) rfl rfl (Nat.le_of_ble_eq_true rfl) (fun p e s m args below meth c Q X Y ls hl KR => w_X9_get_0 X t0 hk0 x1 x2 σ KR Y hl h)
def I_X9_rowsWith : List (Nat × Instr × Nat) := [(0, .iconst 0, 1), (1, .istore_n 3, 1), (2, .iconst 0, 1), (3, .istore 4, 2), (5, .iload 4, 2), (7, .aload_n 0, 1), (8, .getfield 17, 3), (11, .if_icmp .ge 23, 3), (14, .aload_n 0, 1), (15, .iload 4, 2), (17, .iload_n 1, 1), (18, .invokevirtual 38, 3), (21, .iload_n 2, 1), (22, .if_icmp .ne 6, 3), (25, .iinc 3 1, 3), (28, .iinc 4 1, 3), (31, .goto (-26), 3), (34, .iload_n 3, 1), (35, .ireturn, 1)]
set_option maxRecDepth 100000 in
theorem T_X9_rowsWith : ∀ q ∈ I_X9_rowsWith, decode cX9_rowsWith q.1 = .ok (q.2.1, q.2.2) := by decide +kernel
def f_X9_rowsWith_j28 (t0 : Nat) (x1 : Int32) (x2 : Int32) (x3 : Int32) (x4 : Int32) (σ : St) : Option ((Int32 × Int32) ⊕ (Int32)) :=
  some (.inl (x3, x4 + 1))
set_option maxHeartbeats 4000000 in
set_option maxRecDepth 100000 in
theorem w_X9_rowsWith_j28 (X : Cx g RX9 cX9_rowsWith 5 (some .int) p s m args meth c) (t0 : Nat) (hk0 : kd t0 = 10) (x1 : Int32) (x2 : Int32) (x3 : Int32) (x4 : Int32) (σ : St) {w : (Int32 × Int32) ⊕ (Int32)} (KB : ∀ (v0_ : Int32) (v1_ : Int32), w = .inl (v0_, v1_) → ∀ (H : Heap) (locs : List Loc) (ls : Array Slot), Wd g s σ H locs → lv_has ls 5 [(0, .ref (g.2.2 (t0))), (1, .int (x1)), (2, .int (x2)), (3, .int (v0_)), (4, .int (v1_))] → W p l e (rmm 1 23) s m args below meth c H locs 0 0 Q (F0 m 5 ls [])) (KX0 : ∀ (v : Int32), w = .inr v → ∀ (H : Heap) (locs : List Loc) (ls : Array Slot), Wd g s σ H locs → lv_has ls 5 [(3, .int (v))] → W p l e (rmm 1 23) s m args below meth c H locs 0 0 Q (F0 m 34 ls [])) {H : Heap} {locs : List Loc} {ls : Array Slot} (Y : Wd g s σ H locs) (hl : lv_has ls 5 [(0, .ref (g.2.2 (t0))), (1, .int (x1)), (2, .int (x2)), (3, .int (x3)), (4, .int (x4))]) (h : f_X9_rowsWith_j28 t0 x1 x2 x3 x4 σ = some w) : W p l e (rmm 1 23) s m args below meth c H locs 0 0 Q (F0 m 28 ls []) := by
  unfold f_X9_rowsWith_j28 at h
  refine lv_iinc (v := x4 + 1) (lv' := [(4, .int (x4 + 1)), (0, .ref (g.2.2 (t0))), (1, .int (x1)), (2, .int (x2)), (3, .int (x3))]) X.1 X.2.1 (dk T_X9_rowsWith 15 rfl) hl (k := 4) rfl (icx ic_1) (Nat.le_of_ble_eq_true rfl) rfl (fun ls hl => ?_)
  refine lv_goto (tgt := 5) X.1 X.2.1 (dk T_X9_rowsWith 16 rfl) rfl ?_
  exact KB x3 (x4 + 1) (Option.some.inj h).symm _ _ _ Y (lv_sub hl [1, 2, 3, 4, 0] rfl)
def f_X9_rowsWith_l5 (t0 : Nat) (x1 : Int32) (x2 : Int32) (σ : St) (z : Int32 × Int32) : Option ((Int32 × Int32) ⊕ (Int32)) :=
  if (σ t0 2) ≤ z.2 then some (.inr z.1) else (f_X9_get t0 z.2 x1 σ).bind fun q2 => if q2 = x2 then f_X9_rowsWith_j28 t0 x1 x2 (z.1 + 1) z.2 σ else f_X9_rowsWith_j28 t0 x1 x2 z.1 z.2 σ
set_option maxHeartbeats 4000000 in
set_option maxRecDepth 100000 in
theorem w_X9_rowsWith_l5 (X : Cx g RX9 cX9_rowsWith 5 (some .int) p s m args meth c) (t0 : Nat) (hk0 : kd t0 = 10) (x1 : Int32) (x2 : Int32) (σ : St) {r : Int32} (KX0 : ∀ (v : Int32), r = v → ∀ (H : Heap) (locs : List Loc) (ls : Array Slot), Wd g s σ H locs → lv_has ls 5 [(3, .int (v))] → W p l e (rmm 1 23) s m args below meth c H locs 0 0 Q (F0 m 34 ls [])) : ∀ (n : Nat) (z : Int32 × Int32) {H : Heap} {locs : List Loc} {ls : Array Slot}, Wd g s σ H locs → lv_has ls 5 [(0, .ref (g.2.2 (t0))), (1, .int (x1)), (2, .int (x2)), (3, .int (z.1)), (4, .int (z.2))] → lp (f_X9_rowsWith_l5 t0 x1 x2 σ) n z = some r → W p l e (rmm 1 23) s m args below meth c H locs 0 0 Q (F0 m 5 ls []) := by
  intro n
  induction n with
  | zero => intro z H locs ls Y hl h; cases h
  | succ n ih =>
    intro z H locs ls Y hl h
    obtain ⟨w, h, hw⟩ := lps h
    have KB : ∀ (v0_ : Int32) (v1_ : Int32), w = .inl (v0_, v1_) → ∀ (H : Heap) (locs : List Loc) (ls : Array Slot), Wd g s σ H locs → lv_has ls 5 [(0, .ref (g.2.2 (t0))), (1, .int (x1)), (2, .int (x2)), (3, .int (v0_)), (4, .int (v1_))] → W p l e (rmm 1 23) s m args below meth c H locs 0 0 Q (F0 m 5 ls []) := fun v0_ v1_ e H locs ls Y hl => ih (v0_, v1_) Y hl (lpl hw e)
    have KX0 := fun (v : Int32) (e : w = .inr v) => KX0 v (lpr hw e)
    unfold f_X9_rowsWith_l5 at h
    refine lv_iload X.1 X.2.1 (dk T_X9_rowsWith 4 rfl) (lv_at hl 4 rfl) ?_
    refine lv_aload_n X.1 X.2.1 (dk T_X9_rowsWith 5 rfl) rfl (lv_at hl 0 rfl) ?_
    refine gg X Y fl_X9_17 hk0 rfl (dk T_X9_rowsWith 6 rfl) ?_
    refine lv_icmp_ge (tgt := 34) X.1 X.2.1 (dk T_X9_rowsWith 7 rfl) rfl (fun c1 => ?_) (fun c1 => ?_)
    · replace h := ipos c1 h
      exact KX0 z.1 (Option.some.inj h).symm _ _ _ Y (lv_sub hl [3] rfl)
    · replace h := ineg c1 h
      refine lv_aload_n X.1 X.2.1 (dk T_X9_rowsWith 8 rfl) rfl (lv_at hl 0 rfl) ?_
      refine lv_iload X.1 X.2.1 (dk T_X9_rowsWith 9 rfl) (lv_at hl 4 rfl) ?_
      refine lv_iload_n X.1 X.2.1 (dk T_X9_rowsWith 10 rfl) rfl (lv_at hl 1 rfl) ?_
      obtain ⟨q2, hq2, h⟩ := bs h
      refine gvI (rest := []) X Y (c_X9_get t0 hk0 z.2 x1 σ hq2) cb_X9_38 hk0 hl.1 rfl rfl (Nat.le_of_ble_eq_true rfl) ⟨Nat.le_of_ble_eq_true rfl, Nat.le_of_ble_eq_true rfl⟩ (dk T_X9_rowsWith 11 rfl) (fun H locs Y => ?_)
      refine lv_iload_n X.1 X.2.1 (dk T_X9_rowsWith 12 rfl) rfl (lv_at hl 2 rfl) ?_
      refine lv_icmp_ne (tgt := 28) X.1 X.2.1 (dk T_X9_rowsWith 13 rfl) rfl (fun c3 => ?_) (fun c3 => ?_)
      · replace h := ineg c3 h
        exact w_X9_rowsWith_j28 X t0 hk0 x1 x2 z.1 z.2 σ KB KX0 Y (lv_sub hl [0, 1, 2, 3, 4] rfl) h
      · replace h := ipos c3 h
        refine lv_iinc (v := z.1 + 1) (lv' := [(3, .int (z.1 + 1)), (0, .ref (g.2.2 (t0))), (1, .int (x1)), (2, .int (x2)), (4, .int (z.2))]) X.1 X.2.1 (dk T_X9_rowsWith 14 rfl) hl (k := 3) rfl (icx ic_1) (Nat.le_of_ble_eq_true rfl) rfl (fun ls hl => ?_)
        exact w_X9_rowsWith_j28 X t0 hk0 x1 x2 (z.1 + 1) z.2 σ KB KX0 Y (lv_sub hl [1, 2, 3, 0, 4] rfl) h
def f_X9_rowsWith_0 (t0 : Nat) (x1 : Int32) (x2 : Int32) (σ : St) : Option (Int32) :=
  (lp (f_X9_rowsWith_l5 t0 x1 x2 σ) FU (0, 0)).bind fun q4 => some q4
set_option maxHeartbeats 4000000 in
set_option maxRecDepth 100000 in
theorem w_X9_rowsWith_0 (X : Cx g RX9 cX9_rowsWith 5 (some .int) p s m args meth c) (t0 : Nat) (hk0 : kd t0 = 10) (x1 : Int32) (x2 : Int32) (σ : St) {w : Int32} (KR : ∀ (H : Heap) (locs : List Loc) (ls : Array Slot) (pc : Nat), Wd g s σ H locs → decode cX9_rowsWith pc = .ok (.ireturn, 1) → W p l e (rmm 1 23) s m args below meth c H locs 0 0 Q (F0 m pc ls [.int (w)])) {H : Heap} {locs : List Loc} {ls : Array Slot} (Y : Wd g s σ H locs) (hl : lv_has ls 5 [(0, .ref (g.2.2 (t0))), (1, .int (x1)), (2, .int (x2))]) (h : f_X9_rowsWith_0 t0 x1 x2 σ = some w) : W p l e (rmm 1 23) s m args below meth c H locs 0 0 Q (F0 m 0 ls []) := by
  unfold f_X9_rowsWith_0 at h
  refine lv_iconst (v := 0) X.1 X.2.1 (dk T_X9_rowsWith 0 rfl) ic_0 ?_
  refine lv_istore_n (lv' := [(3, .int (0)), (0, .ref (g.2.2 (t0))), (1, .int (x1)), (2, .int (x2))]) X.1 X.2.1 (dk T_X9_rowsWith 1 rfl) rfl hl (Nat.le_of_ble_eq_true rfl) rfl (fun ls hl => ?_)
  refine lv_iconst (v := 0) X.1 X.2.1 (dk T_X9_rowsWith 2 rfl) ic_0 ?_
  refine lv_istore (lv' := [(4, .int (0)), (3, .int (0)), (0, .ref (g.2.2 (t0))), (1, .int (x1)), (2, .int (x2))]) X.1 X.2.1 (dk T_X9_rowsWith 3 rfl) hl (Nat.le_of_ble_eq_true rfl) rfl (fun ls hl => ?_)
  obtain ⟨q4, hq4, h⟩ := bs h
  refine w_X9_rowsWith_l5 X t0 hk0 x1 x2 σ (fun v e H locs ls Y hl => ?_) FU (0, 0) Y (lv_sub hl [2, 3, 4, 1, 0] rfl) hq4
  · obtain rfl := e
    refine lv_iload_n X.1 X.2.1 (dk T_X9_rowsWith 17 rfl) rfl (lv_at hl 0 rfl) ?_
    obtain rfl := Option.some.inj h
    exact KR _ _ _ _ Y (dk T_X9_rowsWith 18 rfl)
def f_X9_rowsWith (t0 : Nat) (x1 : Int32) (x2 : Int32) (σ : St) : Option (Int32) := f_X9_rowsWith_0 t0 x1 x2 σ
set_option maxHeartbeats 4000000 in
set_option maxRecDepth 100000 in
theorem c_X9_rowsWith {l : Launch} {g : Geo} (t0 : Nat) (hk0 : kd t0 = 10) (x1 : Int32) (x2 : Int32) (σ : St) {w : Int32} (h : f_X9_rowsWith t0 x1 x2 σ = some w) : CtI l yX9_rowsWith cX9_rowsWith 5 (some .int) (rmm 1 23) g [.ref (g.2.2 (t0)), .int (x1), .int (x2)] σ w σ := enI .int (by decide) rfl rfl (Nat.le_of_ble_eq_true rfl) (fun p e s m args below meth c Q X Y ls hl KR => w_X9_rowsWith_0 X t0 hk0 x1 x2 σ KR Y hl h)
def I_X10_put : List (Nat × Instr × Nat) := [(0, .iload_n 1, 1), (1, .ifCond .lt 13, 3), (4, .iload_n 1, 1), (5, .aload_n 0, 1), (6, .arraylength, 1), (7, .if_icmp .ge 7, 3), (10, .aload_n 0, 1), (11, .iload_n 1, 1), (12, .iload_n 2, 1), (13, .iastore, 1), (14, .return_, 1)]
set_option maxRecDepth 100000 in
theorem T_X10_put : ∀ q ∈ I_X10_put, decode cX10_put q.1 = .ok (q.2.1, q.2.2) := by decide +kernel
def f_X10_put_0 (t0 : Nat) (x1 : Int32) (x2 : Int32) (σ : St) : Option (St) :=
  if x1 < 0 then some σ else if (Int32.ofNat (ln t0)) ≤ x1 then some σ else chk (inb x1 (ln t0)) (some (up σ t0 x1.toNatClampNeg x2))
set_option maxHeartbeats 4000000 in
set_option maxRecDepth 100000 in
theorem w_X10_put_0 (X : Cx g RX10 cX10_put 3 none p s m args meth c) (t0 : Nat) (hk0 : kd t0 = 20) (x1 : Int32) (x2 : Int32) (σ : St) {w : St} (KR : ∀ (H : Heap) (locs : List Loc) (ls : Array Slot) (pc : Nat), Wd g s w H locs → decode cX10_put pc = .ok (.return_, 1) → W p l e (rmm 0 0) s m args below meth c H locs 0 0 Q (F0 m pc ls [])) {H : Heap} {locs : List Loc} {ls : Array Slot} (Y : Wd g s σ H locs) (hl : lv_has ls 3 [(0, .ref (g.2.2 (t0))), (1, .int (x1)), (2, .int (x2))]) (h : f_X10_put_0 t0 x1 x2 σ = some w) : W p l e (rmm 0 0) s m args below meth c H locs 0 0 Q (F0 m 0 ls []) := by
  unfold f_X10_put_0 at h
  refine lv_iload_n X.1 X.2.1 (dk T_X10_put 0 rfl) rfl (lv_at hl 1 rfl) ?_
  refine lv_if_lt (tgt := 14) X.1 X.2.1 (dk T_X10_put 1 rfl) rfl (fun c1 => ?_) (fun c1 => ?_)
  · replace h := ipos c1 h
    obtain rfl := Option.some.inj h
    exact KR _ _ _ _ Y (dk T_X10_put 10 rfl)
  · replace h := ineg c1 h
    refine lv_iload_n X.1 X.2.1 (dk T_X10_put 2 rfl) rfl (lv_at hl 1 rfl) ?_
    refine lv_aload_n X.1 X.2.1 (dk T_X10_put 3 rfl) rfl (lv_at hl 0 rfl) ?_
    refine gal X Y (i := 0) (v := Int32.ofNat (ln t0)) hk0 (Nat.le_of_ble_eq_true rfl) rfl (dk T_X10_put 4 rfl) ?_
    refine lv_icmp_ge (tgt := 14) X.1 X.2.1 (dk T_X10_put 5 rfl) rfl (fun c2 => ?_) (fun c2 => ?_)
    · replace h := ipos c2 h
      obtain rfl := Option.some.inj h
      exact KR _ _ _ _ Y (dk T_X10_put 10 rfl)
    · replace h := ineg c2 h
      refine lv_aload_n X.1 X.2.1 (dk T_X10_put 6 rfl) rfl (lv_at hl 0 rfl) ?_
      refine lv_iload_n X.1 X.2.1 (dk T_X10_put 7 rfl) rfl (lv_at hl 1 rfl) ?_
      refine lv_iload_n X.1 X.2.1 (dk T_X10_put 8 rfl) rfl (lv_at hl 2 rfl) ?_
      obtain ⟨g3, h⟩ := gd h
      refine gis X Y hk0 (inp g3) (dk T_X10_put 9 rfl) (fun H locs Y => ?_)
      obtain rfl := Option.some.inj h
      exact KR _ _ _ _ Y (dk T_X10_put 10 rfl)
def f_X10_put (t0 : Nat) (x1 : Int32) (x2 : Int32) (σ : St) : Option (St) := f_X10_put_0 t0 x1 x2 σ
set_option maxHeartbeats 4000000 in
set_option maxRecDepth 100000 in
theorem c_X10_put {l : Launch} {g : Geo} (t0 : Nat) (hk0 : kd t0 = 20) (x1 : Int32) (x2 : Int32) (σ : St) {w : St} (h : f_X10_put t0 x1 x2 σ = some w) : CtV l yX10_put cX10_put 3 none (rmm 0 0) g [.ref (g.2.2 (t0)), .int (x1), .int (x2)] σ w := enV (by decide) rfl (Nat.le_of_ble_eq_true rfl) (fun p e s m args below meth c Q X Y ls hl KR => w_X10_put_0 X t0 hk0 x1 x2 σ KR Y hl h)
def I_X10_at : List (Nat × Instr × Nat) := [(0, .iload_n 1, 1), (1, .ifCond .lt 15, 3), (4, .iload_n 1, 1), (5, .aload_n 0, 1), (6, .arraylength, 1), (7, .if_icmp .ge 9, 3), (10, .aload_n 0, 1), (11, .iload_n 1, 1), (12, .iaload, 1), (13, .goto 4, 3), (16, .iconst 0, 1), (17, .ireturn, 1)]
set_option maxRecDepth 100000 in
theorem T_X10_at : ∀ q ∈ I_X10_at, decode cX10_at q.1 = .ok (q.2.1, q.2.2) := by decide +kernel
def f_X10_at_0 (t0 : Nat) (x1 : Int32) (σ : St) : Option (Int32) :=
  if x1 < 0 then some 0 else if (Int32.ofNat (ln t0)) ≤ x1 then some 0 else chk (inb x1 (ln t0)) (some (σ t0 x1.toNatClampNeg))
set_option maxHeartbeats 4000000 in
set_option maxRecDepth 100000 in
theorem w_X10_at_0 (X : Cx g RX10 cX10_at 2 (some .int) p s m args meth c) (t0 : Nat) (hk0 : kd t0 = 20) (x1 : Int32) (σ : St) {w : Int32} (KR : ∀ (H : Heap) (locs : List Loc) (ls : Array Slot) (pc : Nat), Wd g s σ H locs → decode cX10_at pc = .ok (.ireturn, 1) → W p l e (rmm 0 0) s m args below meth c H locs 0 0 Q (F0 m pc ls [.int (w)])) {H : Heap} {locs : List Loc} {ls : Array Slot} (Y : Wd g s σ H locs) (hl : lv_has ls 2 [(0, .ref (g.2.2 (t0))), (1, .int (x1))]) (h : f_X10_at_0 t0 x1 σ = some w) : W p l e (rmm 0 0) s m args below meth c H locs 0 0 Q (F0 m 0 ls []) := by
  unfold f_X10_at_0 at h
  refine lv_iload_n X.1 X.2.1 (dk T_X10_at 0 rfl) rfl (lv_at hl 1 rfl) ?_
  refine lv_if_lt (tgt := 16) X.1 X.2.1 (dk T_X10_at 1 rfl) rfl (fun c1 => ?_) (fun c1 => ?_)
  · replace h := ipos c1 h
    refine lv_iconst (v := 0) X.1 X.2.1 (dk T_X10_at 10 rfl) ic_0 ?_
    obtain rfl := Option.some.inj h
    exact KR _ _ _ _ Y (dk T_X10_at 11 rfl)
  · replace h := ineg c1 h
    refine lv_iload_n X.1 X.2.1 (dk T_X10_at 2 rfl) rfl (lv_at hl 1 rfl) ?_
    refine lv_aload_n X.1 X.2.1 (dk T_X10_at 3 rfl) rfl (lv_at hl 0 rfl) ?_
    refine gal X Y (i := 0) (v := Int32.ofNat (ln t0)) hk0 (Nat.le_of_ble_eq_true rfl) rfl (dk T_X10_at 4 rfl) ?_
    refine lv_icmp_ge (tgt := 16) X.1 X.2.1 (dk T_X10_at 5 rfl) rfl (fun c2 => ?_) (fun c2 => ?_)
    · replace h := ipos c2 h
      refine lv_iconst (v := 0) X.1 X.2.1 (dk T_X10_at 10 rfl) ic_0 ?_
      obtain rfl := Option.some.inj h
      exact KR _ _ _ _ Y (dk T_X10_at 11 rfl)
    · replace h := ineg c2 h
      refine lv_aload_n X.1 X.2.1 (dk T_X10_at 6 rfl) rfl (lv_at hl 0 rfl) ?_
      refine lv_iload_n X.1 X.2.1 (dk T_X10_at 7 rfl) rfl (lv_at hl 1 rfl) ?_
      obtain ⟨g3, h⟩ := gd h
      refine gil X Y hk0 (inp g3) (dk T_X10_at 8 rfl) ?_
      refine lv_goto (tgt := 17) X.1 X.2.1 (dk T_X10_at 9 rfl) rfl ?_
      obtain rfl := Option.some.inj h
      exact KR _ _ _ _ Y (dk T_X10_at 11 rfl)
def f_X10_at (t0 : Nat) (x1 : Int32) (σ : St) : Option (Int32) := f_X10_at_0 t0 x1 σ
set_option maxHeartbeats 4000000 in
set_option maxRecDepth 100000 in
theorem c_X10_at {l : Launch} {g : Geo} (t0 : Nat) (hk0 : kd t0 = 20) (x1 : Int32) (σ : St) {w : Int32} (h : f_X10_at t0 x1 σ = some w) : CtI l yX10_at cX10_at 2 (some .int) (rmm 0 0) g [.ref (g.2.2 (t0)), .int (x1)] σ w σ := enI .int (by decide) rfl rfl (Nat.le_of_ble_eq_true rfl) (fun p e s m args below meth c Q X Y ls hl KR => w_X10_at_0 X t0 hk0 x1 σ KR Y hl h)
def I_J6_bitCount_0f7a4 : List (Nat × Instr × Nat) := [(0, .iload_n 0, 1), (1, .iload_n 0, 1), (2, .iconst 1, 1), (3, .iushr, 1), (4, .ldc_w 265, 3), (7, .iand, 1), (8, .isub, 1), (9, .istore_n 0, 1), (10, .iload_n 0, 1), (11, .ldc_w 266, 3), (14, .iand, 1), (15, .iload_n 0, 1), (16, .iconst 2, 1), (17, .iushr, 1), (18, .ldc_w 266, 3), (21, .iand, 1), (22, .iadd, 1), (23, .istore_n 0, 1), (24, .iload_n 0, 1), (25, .iload_n 0, 1), (26, .iconst 4, 1), (27, .iushr, 1), (28, .iadd, 1), (29, .ldc_w 267, 3), (32, .iand, 1), (33, .istore_n 0, 1), (34, .iload_n 0, 1), (35, .iload_n 0, 1), (36, .bipush 8, 2), (38, .iushr, 1), (39, .iadd, 1), (40, .istore_n 0, 1), (41, .iload_n 0, 1), (42, .iload_n 0, 1), (43, .bipush 16, 2), (45, .iushr, 1), (46, .iadd, 1), (47, .istore_n 0, 1), (48, .iload_n 0, 1), (49, .bipush 63, 2), (51, .iand, 1), (52, .ireturn, 1)]
set_option maxRecDepth 100000 in
theorem T_J6_bitCount_0f7a4 : ∀ q ∈ I_J6_bitCount_0f7a4, decode cJ6_bitCount_0f7a4 q.1 = .ok (q.2.1, q.2.2) := by decide +kernel
def f_J6_bitCount_0f7a4_0 (x0 : Int32) : Option (Int32) :=
  some ((((((((x0 - (((x0.toUInt32 >>> ((1 : Int32).toUInt32 &&& Int32.toUInt32 31)).toInt32) &&& 1431655765)) &&& 858993459) + ((((x0 - (((x0.toUInt32 >>> ((1 : Int32).toUInt32 &&& Int32.toUInt32 31)).toInt32) &&& 1431655765)).toUInt32 >>> ((2 : Int32).toUInt32 &&& Int32.toUInt32 31)).toInt32) &&& 858993459)) + (((((x0 - (((x0.toUInt32 >>> ((1 : Int32).toUInt32 &&& Int32.toUInt32 31)).toInt32) &&& 1431655765)) &&& 858993459) + ((((x0 - (((x0.toUInt32 >>> ((1 : Int32).toUInt32 &&& Int32.toUInt32 31)).toInt32) &&& 1431655765)).toUInt32 >>> ((2 : Int32).toUInt32 &&& Int32.toUInt32 31)).toInt32) &&& 858993459)).toUInt32 >>> ((4 : Int32).toUInt32 &&& Int32.toUInt32 31)).toInt32)) &&& 252645135) + (((((((x0 - (((x0.toUInt32 >>> ((1 : Int32).toUInt32 &&& Int32.toUInt32 31)).toInt32) &&& 1431655765)) &&& 858993459) + ((((x0 - (((x0.toUInt32 >>> ((1 : Int32).toUInt32 &&& Int32.toUInt32 31)).toInt32) &&& 1431655765)).toUInt32 >>> ((2 : Int32).toUInt32 &&& Int32.toUInt32 31)).toInt32) &&& 858993459)) + (((((x0 - (((x0.toUInt32 >>> ((1 : Int32).toUInt32 &&& Int32.toUInt32 31)).toInt32) &&& 1431655765)) &&& 858993459) + ((((x0 - (((x0.toUInt32 >>> ((1 : Int32).toUInt32 &&& Int32.toUInt32 31)).toInt32) &&& 1431655765)).toUInt32 >>> ((2 : Int32).toUInt32 &&& Int32.toUInt32 31)).toInt32) &&& 858993459)).toUInt32 >>> ((4 : Int32).toUInt32 &&& Int32.toUInt32 31)).toInt32)) &&& 252645135).toUInt32 >>> ((8 : Int32).toUInt32 &&& Int32.toUInt32 31)).toInt32)) + ((((((((x0 - (((x0.toUInt32 >>> ((1 : Int32).toUInt32 &&& Int32.toUInt32 31)).toInt32) &&& 1431655765)) &&& 858993459) + ((((x0 - (((x0.toUInt32 >>> ((1 : Int32).toUInt32 &&& Int32.toUInt32 31)).toInt32) &&& 1431655765)).toUInt32 >>> ((2 : Int32).toUInt32 &&& Int32.toUInt32 31)).toInt32) &&& 858993459)) + (((((x0 - (((x0.toUInt32 >>> ((1 : Int32).toUInt32 &&& Int32.toUInt32 31)).toInt32) &&& 1431655765)) &&& 858993459) + ((((x0 - (((x0.toUInt32 >>> ((1 : Int32).toUInt32 &&& Int32.toUInt32 31)).toInt32) &&& 1431655765)).toUInt32 >>> ((2 : Int32).toUInt32 &&& Int32.toUInt32 31)).toInt32) &&& 858993459)).toUInt32 >>> ((4 : Int32).toUInt32 &&& Int32.toUInt32 31)).toInt32)) &&& 252645135) + (((((((x0 - (((x0.toUInt32 >>> ((1 : Int32).toUInt32 &&& Int32.toUInt32 31)).toInt32) &&& 1431655765)) &&& 858993459) + ((((x0 - (((x0.toUInt32 >>> ((1 : Int32).toUInt32 &&& Int32.toUInt32 31)).toInt32) &&& 1431655765)).toUInt32 >>> ((2 : Int32).toUInt32 &&& Int32.toUInt32 31)).toInt32) &&& 858993459)) + (((((x0 - (((x0.toUInt32 >>> ((1 : Int32).toUInt32 &&& Int32.toUInt32 31)).toInt32) &&& 1431655765)) &&& 858993459) + ((((x0 - (((x0.toUInt32 >>> ((1 : Int32).toUInt32 &&& Int32.toUInt32 31)).toInt32) &&& 1431655765)).toUInt32 >>> ((2 : Int32).toUInt32 &&& Int32.toUInt32 31)).toInt32) &&& 858993459)).toUInt32 >>> ((4 : Int32).toUInt32 &&& Int32.toUInt32 31)).toInt32)) &&& 252645135).toUInt32 >>> ((8 : Int32).toUInt32 &&& Int32.toUInt32 31)).toInt32)).toUInt32 >>> ((16 : Int32).toUInt32 &&& Int32.toUInt32 31)).toInt32)) &&& 63)
set_option maxHeartbeats 4000000 in
set_option maxRecDepth 100000 in
theorem w_J6_bitCount_0f7a4_0 (X : Cx g RJ6 cJ6_bitCount_0f7a4 1 (some .int) p s m args meth c) (x0 : Int32) (σ : St) {w : Int32} (KR : ∀ (H : Heap) (locs : List Loc) (ls : Array Slot) (pc : Nat), Wd g s σ H locs → decode cJ6_bitCount_0f7a4 pc = .ok (.ireturn, 1) → W p l e (rmm 0 0) s m args below meth c H locs 0 0 Q (F0 m pc ls [.int (w)])) {H : Heap} {locs : List Loc} {ls : Array Slot} (Y : Wd g s σ H locs) (hl : lv_has ls 1 [(0, .int (x0))]) (h : f_J6_bitCount_0f7a4_0 x0 = some w) : W p l e (rmm 0 0) s m args below meth c H locs 0 0 Q (F0 m 0 ls []) := by
  unfold f_J6_bitCount_0f7a4_0 at h
  refine lv_iload_n X.1 X.2.1 (dk T_J6_bitCount_0f7a4 0 rfl) rfl (lv_at hl 0 rfl) ?_
  refine lv_iload_n X.1 X.2.1 (dk T_J6_bitCount_0f7a4 1 rfl) rfl (lv_at hl 0 rfl) ?_
  refine lv_iconst (v := 1) X.1 X.2.1 (dk T_J6_bitCount_0f7a4 2 rfl) ic_1 ?_
  refine lv_iushr X.1 X.2.1 (dk T_J6_bitCount_0f7a4 3 rfl) rfl ?_
  refine lv_ldcw (v := 1431655765) X.1 X.2.1 X.2.2.2.2.1 (X.2.2.2.2.2.1 _ (mw 16 22 rfl rfl)) (dk T_J6_bitCount_0f7a4 4 rfl) ?_
  refine lv_iand X.1 X.2.1 (dk T_J6_bitCount_0f7a4 5 rfl) ?_
  refine lv_isub X.1 X.2.1 (dk T_J6_bitCount_0f7a4 6 rfl) ?_
  refine lv_istore_n (lv' := [(0, .int (x0 - (((x0.toUInt32 >>> ((1 : Int32).toUInt32 &&& Int32.toUInt32 31)).toInt32) &&& 1431655765)))]) X.1 X.2.1 (dk T_J6_bitCount_0f7a4 7 rfl) rfl hl (Nat.le_of_ble_eq_true rfl) rfl (fun ls hl => ?_)
  refine lv_iload_n X.1 X.2.1 (dk T_J6_bitCount_0f7a4 8 rfl) rfl (lv_at hl 0 rfl) ?_
  refine lv_ldcw (v := 858993459) X.1 X.2.1 X.2.2.2.2.1 (X.2.2.2.2.2.1 _ (mw 16 23 rfl rfl)) (dk T_J6_bitCount_0f7a4 9 rfl) ?_
  refine lv_iand X.1 X.2.1 (dk T_J6_bitCount_0f7a4 10 rfl) ?_
  refine lv_iload_n X.1 X.2.1 (dk T_J6_bitCount_0f7a4 11 rfl) rfl (lv_at hl 0 rfl) ?_
  refine lv_iconst (v := 2) X.1 X.2.1 (dk T_J6_bitCount_0f7a4 12 rfl) ic_2 ?_
  refine lv_iushr X.1 X.2.1 (dk T_J6_bitCount_0f7a4 13 rfl) rfl ?_
  refine lv_ldcw (v := 858993459) X.1 X.2.1 X.2.2.2.2.1 (X.2.2.2.2.2.1 _ (mw 16 23 rfl rfl)) (dk T_J6_bitCount_0f7a4 14 rfl) ?_
  refine lv_iand X.1 X.2.1 (dk T_J6_bitCount_0f7a4 15 rfl) ?_
  refine lv_iadd X.1 X.2.1 (dk T_J6_bitCount_0f7a4 16 rfl) ?_
  refine lv_istore_n (lv' := [(0, .int (((x0 - (((x0.toUInt32 >>> ((1 : Int32).toUInt32 &&& Int32.toUInt32 31)).toInt32) &&& 1431655765)) &&& 858993459) + ((((x0 - (((x0.toUInt32 >>> ((1 : Int32).toUInt32 &&& Int32.toUInt32 31)).toInt32) &&& 1431655765)).toUInt32 >>> ((2 : Int32).toUInt32 &&& Int32.toUInt32 31)).toInt32) &&& 858993459)))]) X.1 X.2.1 (dk T_J6_bitCount_0f7a4 17 rfl) rfl hl (Nat.le_of_ble_eq_true rfl) rfl (fun ls hl => ?_)
  refine lv_iload_n X.1 X.2.1 (dk T_J6_bitCount_0f7a4 18 rfl) rfl (lv_at hl 0 rfl) ?_
  refine lv_iload_n X.1 X.2.1 (dk T_J6_bitCount_0f7a4 19 rfl) rfl (lv_at hl 0 rfl) ?_
  refine lv_iconst (v := 4) X.1 X.2.1 (dk T_J6_bitCount_0f7a4 20 rfl) ic_4 ?_
  refine lv_iushr X.1 X.2.1 (dk T_J6_bitCount_0f7a4 21 rfl) rfl ?_
  refine lv_iadd X.1 X.2.1 (dk T_J6_bitCount_0f7a4 22 rfl) ?_
  refine lv_ldcw (v := 252645135) X.1 X.2.1 X.2.2.2.2.1 (X.2.2.2.2.2.1 _ (mw 16 24 rfl rfl)) (dk T_J6_bitCount_0f7a4 23 rfl) ?_
  refine lv_iand X.1 X.2.1 (dk T_J6_bitCount_0f7a4 24 rfl) ?_
  refine lv_istore_n (lv' := [(0, .int (((((x0 - (((x0.toUInt32 >>> ((1 : Int32).toUInt32 &&& Int32.toUInt32 31)).toInt32) &&& 1431655765)) &&& 858993459) + ((((x0 - (((x0.toUInt32 >>> ((1 : Int32).toUInt32 &&& Int32.toUInt32 31)).toInt32) &&& 1431655765)).toUInt32 >>> ((2 : Int32).toUInt32 &&& Int32.toUInt32 31)).toInt32) &&& 858993459)) + (((((x0 - (((x0.toUInt32 >>> ((1 : Int32).toUInt32 &&& Int32.toUInt32 31)).toInt32) &&& 1431655765)) &&& 858993459) + ((((x0 - (((x0.toUInt32 >>> ((1 : Int32).toUInt32 &&& Int32.toUInt32 31)).toInt32) &&& 1431655765)).toUInt32 >>> ((2 : Int32).toUInt32 &&& Int32.toUInt32 31)).toInt32) &&& 858993459)).toUInt32 >>> ((4 : Int32).toUInt32 &&& Int32.toUInt32 31)).toInt32)) &&& 252645135))]) X.1 X.2.1 (dk T_J6_bitCount_0f7a4 25 rfl) rfl hl (Nat.le_of_ble_eq_true rfl) rfl (fun ls hl => ?_)
  refine lv_iload_n X.1 X.2.1 (dk T_J6_bitCount_0f7a4 26 rfl) rfl (lv_at hl 0 rfl) ?_
  refine lv_iload_n X.1 X.2.1 (dk T_J6_bitCount_0f7a4 27 rfl) rfl (lv_at hl 0 rfl) ?_
  refine lv_bipush (v := 8) X.1 X.2.1 (dk T_J6_bitCount_0f7a4 28 rfl) bp_8 ?_
  refine lv_iushr X.1 X.2.1 (dk T_J6_bitCount_0f7a4 29 rfl) rfl ?_
  refine lv_iadd X.1 X.2.1 (dk T_J6_bitCount_0f7a4 30 rfl) ?_
  refine lv_istore_n (lv' := [(0, .int ((((((x0 - (((x0.toUInt32 >>> ((1 : Int32).toUInt32 &&& Int32.toUInt32 31)).toInt32) &&& 1431655765)) &&& 858993459) + ((((x0 - (((x0.toUInt32 >>> ((1 : Int32).toUInt32 &&& Int32.toUInt32 31)).toInt32) &&& 1431655765)).toUInt32 >>> ((2 : Int32).toUInt32 &&& Int32.toUInt32 31)).toInt32) &&& 858993459)) + (((((x0 - (((x0.toUInt32 >>> ((1 : Int32).toUInt32 &&& Int32.toUInt32 31)).toInt32) &&& 1431655765)) &&& 858993459) + ((((x0 - (((x0.toUInt32 >>> ((1 : Int32).toUInt32 &&& Int32.toUInt32 31)).toInt32) &&& 1431655765)).toUInt32 >>> ((2 : Int32).toUInt32 &&& Int32.toUInt32 31)).toInt32) &&& 858993459)).toUInt32 >>> ((4 : Int32).toUInt32 &&& Int32.toUInt32 31)).toInt32)) &&& 252645135) + (((((((x0 - (((x0.toUInt32 >>> ((1 : Int32).toUInt32 &&& Int32.toUInt32 31)).toInt32) &&& 1431655765)) &&& 858993459) + ((((x0 - (((x0.toUInt32 >>> ((1 : Int32).toUInt32 &&& Int32.toUInt32 31)).toInt32) &&& 1431655765)).toUInt32 >>> ((2 : Int32).toUInt32 &&& Int32.toUInt32 31)).toInt32) &&& 858993459)) + (((((x0 - (((x0.toUInt32 >>> ((1 : Int32).toUInt32 &&& Int32.toUInt32 31)).toInt32) &&& 1431655765)) &&& 858993459) + ((((x0 - (((x0.toUInt32 >>> ((1 : Int32).toUInt32 &&& Int32.toUInt32 31)).toInt32) &&& 1431655765)).toUInt32 >>> ((2 : Int32).toUInt32 &&& Int32.toUInt32 31)).toInt32) &&& 858993459)).toUInt32 >>> ((4 : Int32).toUInt32 &&& Int32.toUInt32 31)).toInt32)) &&& 252645135).toUInt32 >>> ((8 : Int32).toUInt32 &&& Int32.toUInt32 31)).toInt32)))]) X.1 X.2.1 (dk T_J6_bitCount_0f7a4 31 rfl) rfl hl (Nat.le_of_ble_eq_true rfl) rfl (fun ls hl => ?_)
  refine lv_iload_n X.1 X.2.1 (dk T_J6_bitCount_0f7a4 32 rfl) rfl (lv_at hl 0 rfl) ?_
  refine lv_iload_n X.1 X.2.1 (dk T_J6_bitCount_0f7a4 33 rfl) rfl (lv_at hl 0 rfl) ?_
  refine lv_bipush (v := 16) X.1 X.2.1 (dk T_J6_bitCount_0f7a4 34 rfl) bp_16 ?_
  refine lv_iushr X.1 X.2.1 (dk T_J6_bitCount_0f7a4 35 rfl) rfl ?_
  refine lv_iadd X.1 X.2.1 (dk T_J6_bitCount_0f7a4 36 rfl) ?_
  refine lv_istore_n (lv' := [(0, .int (((((((x0 - (((x0.toUInt32 >>> ((1 : Int32).toUInt32 &&& Int32.toUInt32 31)).toInt32) &&& 1431655765)) &&& 858993459) + ((((x0 - (((x0.toUInt32 >>> ((1 : Int32).toUInt32 &&& Int32.toUInt32 31)).toInt32) &&& 1431655765)).toUInt32 >>> ((2 : Int32).toUInt32 &&& Int32.toUInt32 31)).toInt32) &&& 858993459)) + (((((x0 - (((x0.toUInt32 >>> ((1 : Int32).toUInt32 &&& Int32.toUInt32 31)).toInt32) &&& 1431655765)) &&& 858993459) + ((((x0 - (((x0.toUInt32 >>> ((1 : Int32).toUInt32 &&& Int32.toUInt32 31)).toInt32) &&& 1431655765)).toUInt32 >>> ((2 : Int32).toUInt32 &&& Int32.toUInt32 31)).toInt32) &&& 858993459)).toUInt32 >>> ((4 : Int32).toUInt32 &&& Int32.toUInt32 31)).toInt32)) &&& 252645135) + (((((((x0 - (((x0.toUInt32 >>> ((1 : Int32).toUInt32 &&& Int32.toUInt32 31)).toInt32) &&& 1431655765)) &&& 858993459) + ((((x0 - (((x0.toUInt32 >>> ((1 : Int32).toUInt32 &&& Int32.toUInt32 31)).toInt32) &&& 1431655765)).toUInt32 >>> ((2 : Int32).toUInt32 &&& Int32.toUInt32 31)).toInt32) &&& 858993459)) + (((((x0 - (((x0.toUInt32 >>> ((1 : Int32).toUInt32 &&& Int32.toUInt32 31)).toInt32) &&& 1431655765)) &&& 858993459) + ((((x0 - (((x0.toUInt32 >>> ((1 : Int32).toUInt32 &&& Int32.toUInt32 31)).toInt32) &&& 1431655765)).toUInt32 >>> ((2 : Int32).toUInt32 &&& Int32.toUInt32 31)).toInt32) &&& 858993459)).toUInt32 >>> ((4 : Int32).toUInt32 &&& Int32.toUInt32 31)).toInt32)) &&& 252645135).toUInt32 >>> ((8 : Int32).toUInt32 &&& Int32.toUInt32 31)).toInt32)) + ((((((((x0 - (((x0.toUInt32 >>> ((1 : Int32).toUInt32 &&& Int32.toUInt32 31)).toInt32) &&& 1431655765)) &&& 858993459) + ((((x0 - (((x0.toUInt32 >>> ((1 : Int32).toUInt32 &&& Int32.toUInt32 31)).toInt32) &&& 1431655765)).toUInt32 >>> ((2 : Int32).toUInt32 &&& Int32.toUInt32 31)).toInt32) &&& 858993459)) + (((((x0 - (((x0.toUInt32 >>> ((1 : Int32).toUInt32 &&& Int32.toUInt32 31)).toInt32) &&& 1431655765)) &&& 858993459) + ((((x0 - (((x0.toUInt32 >>> ((1 : Int32).toUInt32 &&& Int32.toUInt32 31)).toInt32) &&& 1431655765)).toUInt32 >>> ((2 : Int32).toUInt32 &&& Int32.toUInt32 31)).toInt32) &&& 858993459)).toUInt32 >>> ((4 : Int32).toUInt32 &&& Int32.toUInt32 31)).toInt32)) &&& 252645135) + (((((((x0 - (((x0.toUInt32 >>> ((1 : Int32).toUInt32 &&& Int32.toUInt32 31)).toInt32) &&& 1431655765)) &&& 858993459) + ((((x0 - (((x0.toUInt32 >>> ((1 : Int32).toUInt32 &&& Int32.toUInt32 31)).toInt32) &&& 1431655765)).toUInt32 >>> ((2 : Int32).toUInt32 &&& Int32.toUInt32 31)).toInt32) &&& 858993459)) + (((((x0 - (((x0.toUInt32 >>> ((1 : Int32).toUInt32 &&& Int32.toUInt32 31)).toInt32) &&& 1431655765)) &&& 858993459) + ((((x0 - (((x0.toUInt32 >>> ((1 : Int32).toUInt32 &&& Int32.toUInt32 31)).toInt32) &&& 1431655765)).toUInt32 >>> ((2 : Int32).toUInt32 &&& Int32.toUInt32 31)).toInt32) &&& 858993459)).toUInt32 >>> ((4 : Int32).toUInt32 &&& Int32.toUInt32 31)).toInt32)) &&& 252645135).toUInt32 >>> ((8 : Int32).toUInt32 &&& Int32.toUInt32 31)).toInt32)).toUInt32 >>> ((16 : Int32).toUInt32 &&& Int32.toUInt32 31)).toInt32)))]) X.1 X.2.1 (dk T_J6_bitCount_0f7a4 37 rfl) rfl hl (Nat.le_of_ble_eq_true rfl) rfl (fun ls hl => ?_)
  refine lv_iload_n X.1 X.2.1 (dk T_J6_bitCount_0f7a4 38 rfl) rfl (lv_at hl 0 rfl) ?_
  refine lv_bipush (v := 63) X.1 X.2.1 (dk T_J6_bitCount_0f7a4 39 rfl) bp_63 ?_
  refine lv_iand X.1 X.2.1 (dk T_J6_bitCount_0f7a4 40 rfl) ?_
  obtain rfl := Option.some.inj h
  exact KR _ _ _ _ Y (dk T_J6_bitCount_0f7a4 41 rfl)
def f_J6_bitCount_0f7a4 (x0 : Int32) : Option (Int32) := f_J6_bitCount_0f7a4_0 x0
set_option maxHeartbeats 4000000 in
set_option maxRecDepth 100000 in
theorem c_J6_bitCount_0f7a4 {l : Launch} {g : Geo} (x0 : Int32) (σ : St) {w : Int32} (h : f_J6_bitCount_0f7a4 x0 = some w) : CtI l yJ6_bitCount_0f7a4 cJ6_bitCount_0f7a4 1 (some .int) (rmm 0 0) g [.int (x0)] σ w σ := enI .int (by decide) rfl rfl (Nat.le_of_ble_eq_true rfl) (fun p e s m args below meth c Q X Y ls hl KR => w_J6_bitCount_0f7a4_0 X x0 σ KR Y hl h)
def I_X0_clear : List (Nat × Instr × Nat) := [(0, .aload_n 0, 1), (1, .iconst 0, 1), (2, .putfield 16, 3), (5, .return_, 1)]
set_option maxRecDepth 100000 in
theorem T_X0_clear : ∀ q ∈ I_X0_clear, decode cX0_clear q.1 = .ok (q.2.1, q.2.2) := by decide +kernel
def f_X0_clear_0 (t0 : Nat) (σ : St) : Option (St) :=
  some (up σ t0 2 0)
set_option maxHeartbeats 4000000 in
set_option maxRecDepth 100000 in
theorem w_X0_clear_0 (X : Cx g RX0 cX0_clear 1 none p s m args meth c) (t0 : Nat) (hk0 : kd t0 = 2) (σ : St) {w : St} (KR : ∀ (H : Heap) (locs : List Loc) (ls : Array Slot) (pc : Nat), Wd g s w H locs → decode cX0_clear pc = .ok (.return_, 1) → W p l e (rmm 0 0) s m args below meth c H locs 0 0 Q (F0 m pc ls [])) {H : Heap} {locs : List Loc} {ls : Array Slot} (Y : Wd g s σ H locs) (hl : lv_has ls 1 [(0, .ref (g.2.2 (t0)))]) (h : f_X0_clear_0 t0 σ = some w) : W p l e (rmm 0 0) s m args below meth c H locs 0 0 Q (F0 m 0 ls []) := by
  unfold f_X0_clear_0 at h
  refine lv_aload_n X.1 X.2.1 (dk T_X0_clear 0 rfl) rfl (lv_at hl 0 rfl) ?_
  refine lv_iconst (v := 0) X.1 X.2.1 (dk T_X0_clear 1 rfl) ic_0 ?_
  refine gp X Y fp_X0_16 hk0 (nar_int _) (dk T_X0_clear 2 rfl) (fun H locs Y => ?_)
  obtain rfl := Option.some.inj h
  exact KR _ _ _ _ Y (dk T_X0_clear 3 rfl)
def f_X0_clear (t0 : Nat) (σ : St) : Option (St) := f_X0_clear_0 t0 σ
set_option maxHeartbeats 4000000 in
set_option maxRecDepth 100000 in
theorem c_X0_clear {l : Launch} {g : Geo} (t0 : Nat) (hk0 : kd t0 = 2) (σ : St) {w : St} (h : f_X0_clear t0 σ = some w) : CtV l yX0_clear cX0_clear 1 none (rmm 0 0) g [.ref (g.2.2 (t0))] σ w := enV (by decide) rfl (Nat.le_of_ble_eq_true rfl) (fun p e s m args below meth c Q X Y ls hl KR => w_X0_clear_0 X t0 hk0 σ KR Y hl h)
def I_X0_add : List (Nat × Instr × Nat) := [(0, .aload_n 0, 1), (1, .getfield 16, 3), (4, .iconst 3, 1), (5, .if_icmp .ge 37, 3), (8, .aload_n 0, 1), (9, .getfield 9, 3), (12, .aload_n 0, 1), (13, .getfield 16, 3), (16, .iload_n 1, 1), (17, .invokestatic 20, 3), (20, .aload_n 0, 1), (21, .getfield 13, 3), (24, .aload_n 0, 1), (25, .getfield 16, 3), (28, .iload_n 2, 1), (29, .invokestatic 20, 3), (32, .aload_n 0, 1), (33, .dup, 1), (34, .getfield 16, 3), (37, .iconst 1, 1), (38, .iadd, 1), (39, .putfield 16, 3), (42, .return_, 1)]
set_option maxRecDepth 100000 in
theorem T_X0_add : ∀ q ∈ I_X0_add, decode cX0_add q.1 = .ok (q.2.1, q.2.2) := by decide +kernel
def f_X0_add_0 (t0 : Nat) (x1 : Int32) (x2 : Int32) (σ : St) : Option (St) :=
  if 3 ≤ (σ t0 2) then some σ else (f_X10_put (t0 + 1) (σ t0 2) x1 σ).bind fun q2 => (f_X10_put (t0 + 2) (q2 t0 2) x2 q2).bind fun q3 => some (up q3 t0 2 ((q3 t0 2) + 1))
set_option maxHeartbeats 4000000 in
set_option maxRecDepth 100000 in
theorem w_X0_add_0 (X : Cx g RX0 cX0_add 3 none p s m args meth c) (t0 : Nat) (hk0 : kd t0 = 2) (x1 : Int32) (x2 : Int32) (σ : St) {w : St} (KR : ∀ (H : Heap) (locs : List Loc) (ls : Array Slot) (pc : Nat), Wd g s w H locs → decode cX0_add pc = .ok (.return_, 1) → W p l e (rmm 1 22) s m args below meth c H locs 0 0 Q (F0 m pc ls [])) {H : Heap} {locs : List Loc} {ls : Array Slot} (Y : Wd g s σ H locs) (hl : lv_has ls 3 [(0, .ref (g.2.2 (t0))), (1, .int (x1)), (2, .int (x2))]) (h : f_X0_add_0 t0 x1 x2 σ = some w) : W p l e (rmm 1 22) s m args below meth c H locs 0 0 Q (F0 m 0 ls []) := by
  unfold f_X0_add_0 at h
  refine lv_aload_n X.1 X.2.1 (dk T_X0_add 0 rfl) rfl (lv_at hl 0 rfl) ?_
  refine gg X Y fl_X0_16 hk0 rfl (dk T_X0_add 1 rfl) ?_
  refine lv_iconst (v := 3) X.1 X.2.1 (dk T_X0_add 2 rfl) ic_3 ?_
  refine lv_icmp_ge (tgt := 42) X.1 X.2.1 (dk T_X0_add 3 rfl) rfl (fun c1 => ?_) (fun c1 => ?_)
  · replace h := ipos c1 h
    obtain rfl := Option.some.inj h
    exact KR _ _ _ _ Y (dk T_X0_add 22 rfl)
  · replace h := ineg c1 h
    refine lv_aload_n X.1 X.2.1 (dk T_X0_add 4 rfl) rfl (lv_at hl 0 rfl) ?_
    refine gg X Y fl_X0_9 hk0 rfl (dk T_X0_add 5 rfl) ?_
    refine lv_aload_n X.1 X.2.1 (dk T_X0_add 6 rfl) rfl (lv_at hl 0 rfl) ?_
    refine gg X Y fl_X0_16 hk0 rfl (dk T_X0_add 7 rfl) ?_
    refine lv_iload_n X.1 X.2.1 (dk T_X0_add 8 rfl) rfl (lv_at hl 1 rfl) ?_
    obtain ⟨q2, hq2, h⟩ := bs h
    refine gsVN (rest := []) X Y (c_X10_put (t0 + 1) (kc1 hk0) (σ t0 2) x1 σ hq2) cb_X0_20 hl.1 rfl rfl (Nat.le_of_ble_eq_true rfl) ⟨Nat.le_of_ble_eq_true rfl, Nat.le_of_ble_eq_true rfl⟩ (dk T_X0_add 9 rfl) (fun H locs Y => ?_)
    refine lv_aload_n X.1 X.2.1 (dk T_X0_add 10 rfl) rfl (lv_at hl 0 rfl) ?_
    refine gg X Y fl_X0_13 hk0 rfl (dk T_X0_add 11 rfl) ?_
    refine lv_aload_n X.1 X.2.1 (dk T_X0_add 12 rfl) rfl (lv_at hl 0 rfl) ?_
    refine gg X Y fl_X0_16 hk0 rfl (dk T_X0_add 13 rfl) ?_
    refine lv_iload_n X.1 X.2.1 (dk T_X0_add 14 rfl) rfl (lv_at hl 2 rfl) ?_
    obtain ⟨q3, hq3, h⟩ := bs h
    refine gsVN (rest := []) X Y (c_X10_put (t0 + 2) (kc2 hk0) (q2 t0 2) x2 q2 hq3) cb_X0_20 hl.1 rfl rfl (Nat.le_of_ble_eq_true rfl) ⟨Nat.le_of_ble_eq_true rfl, Nat.le_of_ble_eq_true rfl⟩ (dk T_X0_add 15 rfl) (fun H locs Y => ?_)
    refine lv_aload_n X.1 X.2.1 (dk T_X0_add 16 rfl) rfl (lv_at hl 0 rfl) ?_
    refine lv_dup X.1 X.2.1 (dk T_X0_add 17 rfl) rfl ?_
    refine gg X Y fl_X0_16 hk0 rfl (dk T_X0_add 18 rfl) ?_
    refine lv_iconst (v := 1) X.1 X.2.1 (dk T_X0_add 19 rfl) ic_1 ?_
    refine lv_iadd X.1 X.2.1 (dk T_X0_add 20 rfl) ?_
    refine gp X Y fp_X0_16 hk0 (nar_int _) (dk T_X0_add 21 rfl) (fun H locs Y => ?_)
    obtain rfl := Option.some.inj h
    exact KR _ _ _ _ Y (dk T_X0_add 22 rfl)
def f_X0_add (t0 : Nat) (x1 : Int32) (x2 : Int32) (σ : St) : Option (St) := f_X0_add_0 t0 x1 x2 σ
set_option maxHeartbeats 4000000 in
set_option maxRecDepth 100000 in
theorem c_X0_add {l : Launch} {g : Geo} (t0 : Nat) (hk0 : kd t0 = 2) (x1 : Int32) (x2 : Int32) (σ : St) {w : St} (h : f_X0_add t0 x1 x2 σ = some w) : CtV l yX0_add cX0_add 3 none (rmm 1 22) g [.ref (g.2.2 (t0)), .int (x1), .int (x2)] σ w := enV (by decide) rfl (Nat.le_of_ble_eq_true rfl) (fun p e s m args below meth c Q X Y ls hl KR => w_X0_add_0 X t0 hk0 x1 x2 σ KR Y hl h)
def I_X9_remove : List (Nat × Instr × Nat) := [(0, .aload_n 0, 1), (1, .iload_n 1, 1), (2, .invokevirtual 24, 3), (5, .ifCond .ne 4, 3), (8, .return_, 1), (9, .iload_n 1, 1), (10, .aload_n 0, 1), (11, .getfield 7, 3), (14, .imul, 1), (15, .istore_n 2, 1), (16, .iload_n 2, 1), (17, .aload_n 0, 1), (18, .getfield 17, 3), (21, .iconst 1, 1), (22, .isub, 1), (23, .aload_n 0, 1), (24, .getfield 7, 3), (27, .imul, 1), (28, .if_icmp .ge 30, 3), (31, .aload_n 0, 1), (32, .getfield 13, 3), (35, .iload_n 2, 1), (36, .aload_n 0, 1), (37, .getfield 13, 3), (40, .iload_n 2, 1), (41, .aload_n 0, 1), (42, .getfield 7, 3), (45, .iadd, 1), (46, .invokestatic 28, 3), (49, .invokestatic 34, 3), (52, .iinc 2 1, 3), (55, .goto (-39), 3), (58, .aload_n 0, 1), (59, .dup, 1), (60, .getfield 17, 3), (63, .iconst 1, 1), (64, .isub, 1), (65, .putfield 17, 3), (68, .return_, 1)]
set_option maxRecDepth 100000 in
theorem T_X9_remove : ∀ q ∈ I_X9_remove, decode cX9_remove q.1 = .ok (q.2.1, q.2.2) := by decide +kernel
def f_X9_remove_l16 (t0 : Nat) (z : Int32 × St) : Option ((Int32 × St) ⊕ (St)) :=
  if (((z.2 t0 2) - 1) * (z.2 t0 0)) ≤ z.1 then some (.inr z.2) else (f_X10_at (t0 + 1) (z.1 + (z.2 t0 0)) z.2).bind fun q4 => (f_X10_put (t0 + 1) z.1 q4 z.2).bind fun q5 => some (.inl (z.1 + 1, q5))
set_option maxHeartbeats 4000000 in
set_option maxRecDepth 100000 in
theorem w_X9_remove_l16 (X : Cx g RX9 cX9_remove 3 none p s m args meth c) (t0 : Nat) (hk0 : kd t0 = 10) (σ : St) {r : St} (KX0 : ∀ (v : St), r = v → ∀ (H : Heap) (locs : List Loc) (ls : Array Slot), Wd g s v H locs → lv_has ls 3 [(0, .ref (g.2.2 (t0)))] → W p l e (rmm 1 22) s m args below meth c H locs 0 0 Q (F0 m 58 ls [])) : ∀ (n : Nat) (z : Int32 × St) {H : Heap} {locs : List Loc} {ls : Array Slot}, Wd g s z.2 H locs → lv_has ls 3 [(0, .ref (g.2.2 (t0))), (2, .int (z.1))] → lp (f_X9_remove_l16 t0) n z = some r → W p l e (rmm 1 22) s m args below meth c H locs 0 0 Q (F0 m 16 ls []) := by
  intro n
  induction n with
  | zero => intro z H locs ls Y hl h; cases h
  | succ n ih =>
    intro z H locs ls Y hl h
    obtain ⟨w, h, hw⟩ := lps h
    have KB : ∀ (v0_ : Int32) (v1_ : St), w = .inl (v0_, v1_) → ∀ (H : Heap) (locs : List Loc) (ls : Array Slot), Wd g s v1_ H locs → lv_has ls 3 [(0, .ref (g.2.2 (t0))), (2, .int (v0_))] → W p l e (rmm 1 22) s m args below meth c H locs 0 0 Q (F0 m 16 ls []) := fun v0_ v1_ e H locs ls Y hl => ih (v0_, v1_) Y hl (lpl hw e)
    have KX0 := fun (v : St) (e : w = .inr v) => KX0 v (lpr hw e)
    unfold f_X9_remove_l16 at h
    refine lv_iload_n X.1 X.2.1 (dk T_X9_remove 10 rfl) rfl (lv_at hl 1 rfl) ?_
    refine lv_aload_n X.1 X.2.1 (dk T_X9_remove 11 rfl) rfl (lv_at hl 0 rfl) ?_
    refine gg X Y fl_X9_17 hk0 rfl (dk T_X9_remove 12 rfl) ?_
    refine lv_iconst (v := 1) X.1 X.2.1 (dk T_X9_remove 13 rfl) ic_1 ?_
    refine lv_isub X.1 X.2.1 (dk T_X9_remove 14 rfl) ?_
    refine lv_aload_n X.1 X.2.1 (dk T_X9_remove 15 rfl) rfl (lv_at hl 0 rfl) ?_
    refine gg X Y fl_X9_7 hk0 rfl (dk T_X9_remove 16 rfl) ?_
    refine lv_imul X.1 X.2.1 (dk T_X9_remove 17 rfl) ?_
    refine lv_icmp_ge (tgt := 58) X.1 X.2.1 (dk T_X9_remove 18 rfl) rfl (fun c3 => ?_) (fun c3 => ?_)
    · replace h := ipos c3 h
      exact KX0 z.2 (Option.some.inj h).symm _ _ _ Y (lv_sub hl [0] rfl)
    · replace h := ineg c3 h
      refine lv_aload_n X.1 X.2.1 (dk T_X9_remove 19 rfl) rfl (lv_at hl 0 rfl) ?_
      refine gg X Y fl_X9_13 hk0 rfl (dk T_X9_remove 20 rfl) ?_
      refine lv_iload_n X.1 X.2.1 (dk T_X9_remove 21 rfl) rfl (lv_at hl 1 rfl) ?_
      refine lv_aload_n X.1 X.2.1 (dk T_X9_remove 22 rfl) rfl (lv_at hl 0 rfl) ?_
      refine gg X Y fl_X9_13 hk0 rfl (dk T_X9_remove 23 rfl) ?_
      refine lv_iload_n X.1 X.2.1 (dk T_X9_remove 24 rfl) rfl (lv_at hl 1 rfl) ?_
      refine lv_aload_n X.1 X.2.1 (dk T_X9_remove 25 rfl) rfl (lv_at hl 0 rfl) ?_
      refine gg X Y fl_X9_7 hk0 rfl (dk T_X9_remove 26 rfl) ?_
      refine lv_iadd X.1 X.2.1 (dk T_X9_remove 27 rfl) ?_
      obtain ⟨q4, hq4, h⟩ := bs h
      refine gsIN (rest := [.int (z.1), .ref (g.2.2 ((t0 + 1)))]) X Y (c_X10_at (t0 + 1) (kt1 hk0) (z.1 + (z.2 t0 0)) z.2 hq4) cb_X9_28 hl.1 rfl rfl (Nat.le_of_ble_eq_true rfl) ⟨Nat.le_of_ble_eq_true rfl, Nat.le_of_ble_eq_true rfl⟩ (dk T_X9_remove 28 rfl) (fun H locs Y => ?_)
      obtain ⟨q5, hq5, h⟩ := bs h
      refine gsVN (rest := []) X Y (c_X10_put (t0 + 1) (kt1 hk0) z.1 q4 z.2 hq5) cb_X9_34 hl.1 rfl rfl (Nat.le_of_ble_eq_true rfl) ⟨Nat.le_of_ble_eq_true rfl, Nat.le_of_ble_eq_true rfl⟩ (dk T_X9_remove 29 rfl) (fun H locs Y => ?_)
      refine lv_iinc (v := z.1 + 1) (lv' := [(2, .int (z.1 + 1)), (0, .ref (g.2.2 (t0)))]) X.1 X.2.1 (dk T_X9_remove 30 rfl) hl (k := 1) rfl (icx ic_1) (Nat.le_of_ble_eq_true rfl) rfl (fun ls hl => ?_)
      refine lv_goto (tgt := 16) X.1 X.2.1 (dk T_X9_remove 31 rfl) rfl ?_
      exact KB (z.1 + 1) q5 (Option.some.inj h).symm _ _ _ Y (lv_sub hl [1, 0] rfl)
def f_X9_remove_0 (t0 : Nat) (x1 : Int32) (σ : St) : Option (St) :=
  (f_X9_has t0 x1 σ).bind fun q1 => if q1 = 0 then some σ else (lp (f_X9_remove_l16 t0) FU (x1 * (σ t0 0), σ)).bind fun q6 => some (up q6 t0 2 ((q6 t0 2) - 1))
set_option maxHeartbeats 4000000 in
set_option maxRecDepth 100000 in
theorem w_X9_remove_0 (X : Cx g RX9 cX9_remove 3 none p s m args meth c) (t0 : Nat) (hk0 : kd t0 = 10) (x1 : Int32) (σ : St) {w : St} (KR : ∀ (H : Heap) (locs : List Loc) (ls : Array Slot) (pc : Nat), Wd g s w H locs → decode cX9_remove pc = .ok (.return_, 1) → W p l e (rmm 1 22) s m args below meth c H locs 0 0 Q (F0 m pc ls [])) {H : Heap} {locs : List Loc} {ls : Array Slot} (Y : Wd g s σ H locs) (hl : lv_has ls 3 [(0, .ref (g.2.2 (t0))), (1, .int (x1))]) (h : f_X9_remove_0 t0 x1 σ = some w) : W p l e (rmm 1 22) s m args below meth c H locs 0 0 Q (F0 m 0 ls []) := by
  unfold f_X9_remove_0 at h
  refine lv_aload_n X.1 X.2.1 (dk T_X9_remove 0 rfl) rfl (lv_at hl 0 rfl) ?_
  refine lv_iload_n X.1 X.2.1 (dk T_X9_remove 1 rfl) rfl (lv_at hl 1 rfl) ?_
  obtain ⟨q1, hq1, h⟩ := bs h
  refine gvI (rest := []) X Y (c_X9_has t0 hk0 x1 σ hq1) cb_X9_24 hk0 hl.1 rfl rfl (Nat.le_of_ble_eq_true rfl) ⟨Nat.le_of_ble_eq_true rfl, Nat.le_of_ble_eq_true rfl⟩ (dk T_X9_remove 2 rfl) (fun H locs Y => ?_)
  refine lv_if_ne (tgt := 9) X.1 X.2.1 (dk T_X9_remove 3 rfl) rfl (fun c2 => ?_) (fun c2 => ?_)
  · replace h := ineg c2 h
    refine lv_iload_n X.1 X.2.1 (dk T_X9_remove 5 rfl) rfl (lv_at hl 1 rfl) ?_
    refine lv_aload_n X.1 X.2.1 (dk T_X9_remove 6 rfl) rfl (lv_at hl 0 rfl) ?_
    refine gg X Y fl_X9_7 hk0 rfl (dk T_X9_remove 7 rfl) ?_
    refine lv_imul X.1 X.2.1 (dk T_X9_remove 8 rfl) ?_
    refine lv_istore_n (lv' := [(2, .int (x1 * (σ t0 0))), (0, .ref (g.2.2 (t0))), (1, .int (x1))]) X.1 X.2.1 (dk T_X9_remove 9 rfl) rfl hl (Nat.le_of_ble_eq_true rfl) rfl (fun ls hl => ?_)
    obtain ⟨q6, hq6, h⟩ := bs h
    refine w_X9_remove_l16 X t0 hk0 σ (fun v e H locs ls Y hl => ?_) FU (x1 * (σ t0 0), σ) Y (lv_sub hl [1, 0] rfl) hq6
    · obtain rfl := e
      refine lv_aload_n X.1 X.2.1 (dk T_X9_remove 32 rfl) rfl (lv_at hl 0 rfl) ?_
      refine lv_dup X.1 X.2.1 (dk T_X9_remove 33 rfl) rfl ?_
      refine gg X Y fl_X9_17 hk0 rfl (dk T_X9_remove 34 rfl) ?_
      refine lv_iconst (v := 1) X.1 X.2.1 (dk T_X9_remove 35 rfl) ic_1 ?_
      refine lv_isub X.1 X.2.1 (dk T_X9_remove 36 rfl) ?_
      refine gp X Y fp_X9_17 hk0 (nar_int _) (dk T_X9_remove 37 rfl) (fun H locs Y => ?_)
      obtain rfl := Option.some.inj h
      exact KR _ _ _ _ Y (dk T_X9_remove 38 rfl)
  · replace h := ipos c2 h
    obtain rfl := Option.some.inj h
    exact KR _ _ _ _ Y (dk T_X9_remove 4 rfl)
def f_X9_remove (t0 : Nat) (x1 : Int32) (σ : St) : Option (St) := f_X9_remove_0 t0 x1 σ
set_option maxHeartbeats 4000000 in
set_option maxRecDepth 100000 in
theorem c_X9_remove {l : Launch} {g : Geo} (t0 : Nat) (hk0 : kd t0 = 10) (x1 : Int32) (σ : St) {w : St} (h : f_X9_remove t0 x1 σ = some w) : CtV l yX9_remove cX9_remove 3 none (rmm 1 22) g [.ref (g.2.2 (t0)), .int (x1)] σ w := enV (by decide) rfl (Nat.le_of_ble_eq_true rfl) (fun p e s m args below meth c Q X Y ls hl KR => w_X9_remove_0 X t0 hk0 x1 σ KR Y hl h)
def I_X9_size : List (Nat × Instr × Nat) := [(0, .aload_n 0, 1), (1, .getfield 17, 3), (4, .ireturn, 1)]
set_option maxRecDepth 100000 in
theorem T_X9_size : ∀ q ∈ I_X9_size, decode cX9_size q.1 = .ok (q.2.1, q.2.2) := by decide +kernel
def f_X9_size_0 (t0 : Nat) (σ : St) : Option (Int32) :=
  some (σ t0 2)
set_option maxHeartbeats 4000000 in
set_option maxRecDepth 100000 in
theorem w_X9_size_0 (X : Cx g RX9 cX9_size 1 (some .int) p s m args meth c) (t0 : Nat) (hk0 : kd t0 = 10) (σ : St) {w : Int32} (KR : ∀ (H : Heap) (locs : List Loc) (ls : Array Slot) (pc : Nat), Wd g s σ H locs → decode cX9_size pc = .ok (.ireturn, 1) → W p l e (rmm 0 0) s m args below meth c H locs 0 0 Q (F0 m pc ls [.int (w)])) {H : Heap} {locs : List Loc} {ls : Array Slot} (Y : Wd g s σ H locs) (hl : lv_has ls 1 [(0, .ref (g.2.2 (t0)))]) (h : f_X9_size_0 t0 σ = some w) : W p l e (rmm 0 0) s m args below meth c H locs 0 0 Q (F0 m 0 ls []) := by
  unfold f_X9_size_0 at h
  refine lv_aload_n X.1 X.2.1 (dk T_X9_size 0 rfl) rfl (lv_at hl 0 rfl) ?_
  refine gg X Y fl_X9_17 hk0 rfl (dk T_X9_size 1 rfl) ?_
  obtain rfl := Option.some.inj h
  exact KR _ _ _ _ Y (dk T_X9_size 2 rfl)
def f_X9_size (t0 : Nat) (σ : St) : Option (Int32) := f_X9_size_0 t0 σ
set_option maxHeartbeats 4000000 in
set_option maxRecDepth 100000 in
theorem c_X9_size {l : Launch} {g : Geo} (t0 : Nat) (hk0 : kd t0 = 10) (σ : St) {w : Int32} (h : f_X9_size t0 σ = some w) : CtI l yX9_size cX9_size 1 (some .int) (rmm 0 0) g [.ref (g.2.2 (t0))] σ w σ := enI .int (by decide) rfl rfl (Nat.le_of_ble_eq_true rfl) (fun p e s m args below meth c Q X Y ls hl KR => w_X9_size_0 X t0 hk0 σ KR Y hl h)
def I_X0_has : List (Nat × Instr × Nat) := [(0, .iload_n 1, 1), (1, .ifCond .lt 15, 3), (4, .iload_n 1, 1), (5, .aload_n 0, 1), (6, .getfield 16, 3), (9, .if_icmp .ge 7, 3), (12, .iconst 1, 1), (13, .goto 4, 3), (16, .iconst 0, 1), (17, .ireturn, 1)]
set_option maxRecDepth 100000 in
theorem T_X0_has : ∀ q ∈ I_X0_has, decode cX0_has q.1 = .ok (q.2.1, q.2.2) := by decide +kernel
def f_X0_has_0 (t0 : Nat) (x1 : Int32) (σ : St) : Option (Int32) :=
  if x1 < 0 then some 0 else if (σ t0 2) ≤ x1 then some 0 else some 1
set_option maxHeartbeats 4000000 in
set_option maxRecDepth 100000 in
theorem w_X0_has_0 (X : Cx g RX0 cX0_has 2 (some .boolean) p s m args meth c) (t0 : Nat) (hk0 : kd t0 = 2) (x1 : Int32) (σ : St) {w : Int32} (KR : ∀ (H : Heap) (locs : List Loc) (ls : Array Slot) (pc : Nat), Wd g s σ H locs → decode cX0_has pc = .ok (.ireturn, 1) → W p l e (rmm 0 0) s m args below meth c H locs 0 0 Q (F0 m pc ls [.int (w)])) {H : Heap} {locs : List Loc} {ls : Array Slot} (Y : Wd g s σ H locs) (hl : lv_has ls 2 [(0, .ref (g.2.2 (t0))), (1, .int (x1))]) (h : f_X0_has_0 t0 x1 σ = some w) : W p l e (rmm 0 0) s m args below meth c H locs 0 0 Q (F0 m 0 ls []) := by
  unfold f_X0_has_0 at h
  refine lv_iload_n X.1 X.2.1 (dk T_X0_has 0 rfl) rfl (lv_at hl 1 rfl) ?_
  refine lv_if_lt (tgt := 16) X.1 X.2.1 (dk T_X0_has 1 rfl) rfl (fun c1 => ?_) (fun c1 => ?_)
  · replace h := ipos c1 h
    refine lv_iconst (v := 0) X.1 X.2.1 (dk T_X0_has 8 rfl) ic_0 ?_
    obtain rfl := Option.some.inj h
    exact KR _ _ _ _ Y (dk T_X0_has 9 rfl)
  · replace h := ineg c1 h
    refine lv_iload_n X.1 X.2.1 (dk T_X0_has 2 rfl) rfl (lv_at hl 1 rfl) ?_
    refine lv_aload_n X.1 X.2.1 (dk T_X0_has 3 rfl) rfl (lv_at hl 0 rfl) ?_
    refine gg X Y fl_X0_16 hk0 rfl (dk T_X0_has 4 rfl) ?_
    refine lv_icmp_ge (tgt := 16) X.1 X.2.1 (dk T_X0_has 5 rfl) rfl (fun c2 => ?_) (fun c2 => ?_)
    · replace h := ipos c2 h
      refine lv_iconst (v := 0) X.1 X.2.1 (dk T_X0_has 8 rfl) ic_0 ?_
      obtain rfl := Option.some.inj h
      exact KR _ _ _ _ Y (dk T_X0_has 9 rfl)
    · replace h := ineg c2 h
      refine lv_iconst (v := 1) X.1 X.2.1 (dk T_X0_has 6 rfl) ic_1 ?_
      refine lv_goto (tgt := 17) X.1 X.2.1 (dk T_X0_has 7 rfl) rfl ?_
      obtain rfl := Option.some.inj h
      exact KR _ _ _ _ Y (dk T_X0_has 9 rfl)
def f_X0_has (t0 : Nat) (x1 : Int32) (σ : St) : Option (Int32) := bz (f_X0_has_0 t0 x1 σ)
set_option maxHeartbeats 4000000 in
set_option maxRecDepth 100000 in
theorem c_X0_has {l : Launch} {g : Geo} (t0 : Nat) (hk0 : kd t0 = 2) (x1 : Int32) (σ : St) {w : Int32} (h : f_X0_has t0 x1 σ = some w) : CtI l yX0_has cX0_has 2 (some .boolean) (rmm 0 0) g [.ref (g.2.2 (t0)), .int (x1)] σ w σ := by
  obtain ⟨h, hz⟩ := bz_s h
  exact enI .boolean (by decide) rfl (bz_n hz) (Nat.le_of_ble_eq_true rfl) (fun p e s m args below meth c Q X Y ls hl KR => w_X0_has_0 X t0 hk0 x1 σ KR Y hl h)
def I_X0_placeAt : List (Nat × Instr × Nat) := [(0, .aload_n 0, 1), (1, .getfield 13, 3), (4, .iload_n 1, 1), (5, .invokestatic 26, 3), (8, .ireturn, 1)]
set_option maxRecDepth 100000 in
theorem T_X0_placeAt : ∀ q ∈ I_X0_placeAt, decode cX0_placeAt q.1 = .ok (q.2.1, q.2.2) := by decide +kernel
def f_X0_placeAt_0 (t0 : Nat) (x1 : Int32) (σ : St) : Option (Int32) :=
  (f_X10_at (t0 + 2) x1 σ).bind fun q1 => some q1
set_option maxHeartbeats 4000000 in
set_option maxRecDepth 100000 in
theorem w_X0_placeAt_0 (X : Cx g RX0 cX0_placeAt 2 (some .int) p s m args meth c) (t0 : Nat) (hk0 : kd t0 = 2) (x1 : Int32) (σ : St) {w : Int32} (KR : ∀ (H : Heap) (locs : List Loc) (ls : Array Slot) (pc : Nat), Wd g s σ H locs → decode cX0_placeAt pc = .ok (.ireturn, 1) → W p l e (rmm 1 21) s m args below meth c H locs 0 0 Q (F0 m pc ls [.int (w)])) {H : Heap} {locs : List Loc} {ls : Array Slot} (Y : Wd g s σ H locs) (hl : lv_has ls 2 [(0, .ref (g.2.2 (t0))), (1, .int (x1))]) (h : f_X0_placeAt_0 t0 x1 σ = some w) : W p l e (rmm 1 21) s m args below meth c H locs 0 0 Q (F0 m 0 ls []) := by
  unfold f_X0_placeAt_0 at h
  refine lv_aload_n X.1 X.2.1 (dk T_X0_placeAt 0 rfl) rfl (lv_at hl 0 rfl) ?_
  refine gg X Y fl_X0_13 hk0 rfl (dk T_X0_placeAt 1 rfl) ?_
  refine lv_iload_n X.1 X.2.1 (dk T_X0_placeAt 2 rfl) rfl (lv_at hl 1 rfl) ?_
  obtain ⟨q1, hq1, h⟩ := bs h
  refine gsIN (rest := []) X Y (c_X10_at (t0 + 2) (kc2 hk0) x1 σ hq1) cb_X0_26 hl.1 rfl rfl (Nat.le_of_ble_eq_true rfl) ⟨Nat.le_of_ble_eq_true rfl, Nat.le_of_ble_eq_true rfl⟩ (dk T_X0_placeAt 3 rfl) (fun H locs Y => ?_)
  obtain rfl := Option.some.inj h
  exact KR _ _ _ _ Y (dk T_X0_placeAt 4 rfl)
def f_X0_placeAt (t0 : Nat) (x1 : Int32) (σ : St) : Option (Int32) := f_X0_placeAt_0 t0 x1 σ
set_option maxHeartbeats 4000000 in
set_option maxRecDepth 100000 in
theorem c_X0_placeAt {l : Launch} {g : Geo} (t0 : Nat) (hk0 : kd t0 = 2) (x1 : Int32) (σ : St) {w : Int32} (h : f_X0_placeAt t0 x1 σ = some w) : CtI l yX0_placeAt cX0_placeAt 2 (some .int) (rmm 1 21) g [.ref (g.2.2 (t0)), .int (x1)] σ w σ := enI .int (by decide) rfl rfl (Nat.le_of_ble_eq_true rfl) (fun p e s m args below meth c Q X Y ls hl KR => w_X0_placeAt_0 X t0 hk0 x1 σ KR Y hl h)
def I_X0_kindAt : List (Nat × Instr × Nat) := [(0, .aload_n 0, 1), (1, .getfield 9, 3), (4, .iload_n 1, 1), (5, .invokestatic 26, 3), (8, .ireturn, 1)]
set_option maxRecDepth 100000 in
theorem T_X0_kindAt : ∀ q ∈ I_X0_kindAt, decode cX0_kindAt q.1 = .ok (q.2.1, q.2.2) := by decide +kernel
def f_X0_kindAt_0 (t0 : Nat) (x1 : Int32) (σ : St) : Option (Int32) :=
  (f_X10_at (t0 + 1) x1 σ).bind fun q1 => some q1
set_option maxHeartbeats 4000000 in
set_option maxRecDepth 100000 in
theorem w_X0_kindAt_0 (X : Cx g RX0 cX0_kindAt 2 (some .int) p s m args meth c) (t0 : Nat) (hk0 : kd t0 = 2) (x1 : Int32) (σ : St) {w : Int32} (KR : ∀ (H : Heap) (locs : List Loc) (ls : Array Slot) (pc : Nat), Wd g s σ H locs → decode cX0_kindAt pc = .ok (.ireturn, 1) → W p l e (rmm 1 21) s m args below meth c H locs 0 0 Q (F0 m pc ls [.int (w)])) {H : Heap} {locs : List Loc} {ls : Array Slot} (Y : Wd g s σ H locs) (hl : lv_has ls 2 [(0, .ref (g.2.2 (t0))), (1, .int (x1))]) (h : f_X0_kindAt_0 t0 x1 σ = some w) : W p l e (rmm 1 21) s m args below meth c H locs 0 0 Q (F0 m 0 ls []) := by
  unfold f_X0_kindAt_0 at h
  refine lv_aload_n X.1 X.2.1 (dk T_X0_kindAt 0 rfl) rfl (lv_at hl 0 rfl) ?_
  refine gg X Y fl_X0_9 hk0 rfl (dk T_X0_kindAt 1 rfl) ?_
  refine lv_iload_n X.1 X.2.1 (dk T_X0_kindAt 2 rfl) rfl (lv_at hl 1 rfl) ?_
  obtain ⟨q1, hq1, h⟩ := bs h
  refine gsIN (rest := []) X Y (c_X10_at (t0 + 1) (kc1 hk0) x1 σ hq1) cb_X0_26 hl.1 rfl rfl (Nat.le_of_ble_eq_true rfl) ⟨Nat.le_of_ble_eq_true rfl, Nat.le_of_ble_eq_true rfl⟩ (dk T_X0_kindAt 3 rfl) (fun H locs Y => ?_)
  obtain rfl := Option.some.inj h
  exact KR _ _ _ _ Y (dk T_X0_kindAt 4 rfl)
def f_X0_kindAt (t0 : Nat) (x1 : Int32) (σ : St) : Option (Int32) := f_X0_kindAt_0 t0 x1 σ
set_option maxHeartbeats 4000000 in
set_option maxRecDepth 100000 in
theorem c_X0_kindAt {l : Launch} {g : Geo} (t0 : Nat) (hk0 : kd t0 = 2) (x1 : Int32) (σ : St) {w : Int32} (h : f_X0_kindAt t0 x1 σ = some w) : CtI l yX0_kindAt cX0_kindAt 2 (some .int) (rmm 1 21) g [.ref (g.2.2 (t0)), .int (x1)] σ w σ := enI .int (by decide) rfl rfl (Nat.le_of_ble_eq_true rfl) (fun p e s m args below meth c Q X Y ls hl KR => w_X0_kindAt_0 X t0 hk0 x1 σ KR Y hl h)
end
