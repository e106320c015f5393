theorem bp_15 : (Int8.ofInt 15).toInt32 = 15 := by decide
theorem bp_21 : (Int8.ofInt 21).toInt32 = 21 := by decide
theorem sp_621 : (Int16.ofInt 621).toInt32 = 621 := by decide
theorem sp_629 : (Int16.ofInt 629).toInt32 = 629 := by decide
theorem sp_637 : (Int16.ofInt 637).toInt32 = 637 := by decide
theorem sp_645 : (Int16.ofInt 645).toInt32 = 645 := by decide
theorem sp_653 : (Int16.ofInt 653).toInt32 = 653 := by decide
theorem sp_661 : (Int16.ofInt 661).toInt32 = 661 := by decide
theorem sp_681 : (Int16.ofInt 681).toInt32 = 681 := by decide
theorem sp_701 : (Int16.ofInt 701).toInt32 = 701 := by decide
theorem sp_721 : (Int16.ofInt 721).toInt32 = 721 := by decide
theorem sp_741 : (Int16.ofInt 741).toInt32 = 741 := by decide
theorem sp_761 : (Int16.ofInt 761).toInt32 = 761 := by decide
theorem sp_5327 : (Int16.ofInt 5327).toInt32 = 5327 := by decide
theorem cb_X11_75 : CBS RX11 75 yX11_in cX11_in 3 (some .boolean) 3 := ⟨⟨mw 7 10 rfl rfl, mw 0 5 rfl rfl, mw 7 12 rfl rfl, by decide, by decide, by decide +kernel⟩, mw 7 11 rfl rfl⟩
theorem cb_X11_82 : CBV RX11 82 yX11_frames cX11_frames 2 none 0 12 := ⟨⟨mw 7 21 rfl rfl, mw 0 5 rfl rfl, mw 7 24 rfl rfl, by decide, by decide, by decide +kernel⟩, mw 7 22 rfl rfl, mw 7 23 rfl rfl, TX11, 48, tyX11, cl_X11⟩
theorem cb_X11_85 : CBV RX11 85 yX11_keeps cX11_keeps 2 none 0 12 := ⟨⟨mw 7 25 rfl rfl, mw 0 5 rfl rfl, mw 7 28 rfl rfl, by decide, by decide, by decide +kernel⟩, mw 7 26 rfl rfl, mw 7 27 rfl rfl, TX11, 48, tyX11, cl_X11⟩
theorem cb_X11_88 : CBS RX11 88 yX11_isSheetForm cX11_isSheetForm 3 (some .boolean) 3 := ⟨⟨mw 7 7 rfl rfl, mw 0 5 rfl rfl, mw 7 9 rfl rfl, by decide, by decide, by decide +kernel⟩, mw 7 8 rfl rfl⟩
theorem cb_X11_91 : CBV RX11 91 yX11_fails cX11_fails 2 (some .int) 1 12 := ⟨⟨mw 7 13 rfl rfl, mw 0 5 rfl rfl, mw 7 16 rfl rfl, by decide, by decide, by decide +kernel⟩, mw 7 14 rfl rfl, mw 7 15 rfl rfl, TX11, 48, tyX11, cl_X11⟩
theorem cb_X11_95 : CBV RX11 95 yX11_changes cX11_changes 1 none 0 12 := ⟨⟨mw 7 17 rfl rfl, mw 0 5 rfl rfl, mw 7 20 rfl rfl, by decide, by decide, by decide +kernel⟩, mw 7 18 rfl rfl, mw 7 19 rfl rfl, TX11, 48, tyX11, cl_X11⟩
theorem cb_X11_98 : CBV RX11 98 yX11_makesSheet cX11_makesSheet 6 (some .int) 3 12 := ⟨⟨mw 7 30 rfl rfl, mw 0 5 rfl rfl, mw 8 1 rfl rfl, by decide, by decide, by decide +kernel⟩, mw 7 31 rfl rfl, mw 8 0 rfl rfl, TX11, 48, tyX11, cl_X11⟩
theorem cb_X11_102 : CBS RX11 102 yX11_at cX11_at 3 (some .int) 3 := ⟨⟨mw 9 17 rfl rfl, mw 0 5 rfl rfl, mw 9 19 rfl rfl, by decide, by decide, by decide +kernel⟩, mw 9 18 rfl rfl⟩
theorem cb_X11_105 : CBS RX11 105 yX11_has cX11_has 2 (some .boolean) 2 := ⟨⟨mw 9 20 rfl rfl, mw 0 5 rfl rfl, mw 9 22 rfl rfl, by decide, by decide, by decide +kernel⟩, mw 9 21 rfl rfl⟩
theorem cb_X11_109 : CBS RX11 109 yX11_isFull cX11_isFull 7 (some .boolean) 3 := ⟨⟨mw 9 14 rfl rfl, mw 0 5 rfl rfl, mw 9 16 rfl rfl, by decide, by decide, by decide +kernel⟩, mw 9 15 rfl rfl⟩
theorem cb_X11_112 : CBS RX11 112 yX11_lowest cX11_lowest 1 (some .int) 1 := ⟨⟨mw 9 23 rfl rfl, mw 0 5 rfl rfl, mw 9 25 rfl rfl, by decide, by decide, by decide +kernel⟩, mw 9 24 rfl rfl⟩
theorem cb_X11_115 : CBS RX11 115 yX11_spread cX11_spread 9 (some .int) 4 := ⟨⟨mw 9 26 rfl rfl, mw 0 5 rfl rfl, mw 9 28 rfl rfl, by decide, by decide, by decide +kernel⟩, mw 9 27 rfl rfl⟩
theorem cb_X11_119 : CBS RX11 119 yX11_isField cX11_isField 3 (some .boolean) 3 := ⟨⟨mw 9 11 rfl rfl, mw 0 5 rfl rfl, mw 9 13 rfl rfl, by decide, by decide, by decide +kernel⟩, mw 9 12 rfl rfl⟩
theorem cb_X11_122 : CBV RX11 122 yX11_makesShape cX11_makesShape 7 (some .int) 5 12 := ⟨⟨mw 9 29 rfl rfl, mw 0 5 rfl rfl, mw 10 0 rfl rfl, by decide, by decide, by decide +kernel⟩, mw 9 30 rfl rfl, mw 9 31 rfl rfl, TX11, 48, tyX11, cl_X11⟩
theorem cb_X11_126 : CBV RX11 126 yX11_turnedColumns cX11_turnedColumns 3 (some .int) 2 12 := ⟨⟨mw 12 9 rfl rfl, mw 0 5 rfl rfl, mw 12 12 rfl rfl, by decide, by decide, by decide +kernel⟩, mw 12 10 rfl rfl, mw 12 11 rfl rfl, TX11, 48, tyX11, cl_X11⟩
theorem cb_X11_130 : CBV RX11 130 yX11_turnedRows cX11_turnedRows 3 (some .int) 2 12 := ⟨⟨mw 12 13 rfl rfl, mw 0 5 rfl rfl, mw 12 16 rfl rfl, by decide, by decide, by decide +kernel⟩, mw 12 14 rfl rfl, mw 12 15 rfl rfl, TX11, 48, tyX11, cl_X11⟩
theorem cb_X11_133 : CBS RX11 133 yX11_quarter cX11_quarter 6 (some .int) 3 := ⟨⟨mw 12 17 rfl rfl, mw 0 5 rfl rfl, mw 12 19 rfl rfl, by decide, by decide, by decide +kernel⟩, mw 12 18 rfl rfl⟩
theorem cb_X11_136 : CBV RX11 136 yX11_turnedSet cX11_turnedSet 5 (some .int) 2 12 := ⟨⟨mw 12 5 rfl rfl, mw 0 5 rfl rfl, mw 12 8 rfl rfl, by decide, by decide, by decide +kernel⟩, mw 12 6 rfl rfl, mw 12 7 rfl rfl, TX11, 48, tyX11, cl_X11⟩
theorem cb_X11_139 : CBV RX11 139 yX11_cellOf cX11_cellOf 4 (some .int) 2 12 := ⟨⟨mw 12 20 rfl rfl, mw 0 5 rfl rfl, mw 12 23 rfl rfl, by decide, by decide, by decide +kernel⟩, mw 12 21 rfl rfl, mw 12 22 rfl rfl, TX11, 48, tyX11, cl_X11⟩
section
variable {p : Program} {l : Launch} {e : Env} {s : State} {m : MethodId} {args : Array Value} {below : List Frame} {meth : Method} {c : Code} {Q : State → Prop} {g : Geo}
def I_X11_in : List (Nat × Instr × Nat) := [(0, .iload_n 0, 1), (1, .iload_n 1, 1), (2, .if_icmp .lt 12, 3), (5, .iload_n 0, 1), (6, .iload_n 2, 1), (7, .if_icmp .gt 7, 3), (10, .iconst 1, 1), (11, .goto 4, 3), (14, .iconst 0, 1), (15, .ireturn, 1)]
set_option maxRecDepth 100000 in
theorem T_X11_in : ∀ q ∈ I_X11_in, decode cX11_in q.1 = .ok (q.2.1, q.2.2) := by decide +kernel
def f_X11_in_0 (x0 : Int32) (x1 : Int32) (x2 : Int32) : Option (Int32) :=
  if x0 < x1 then some 0 else if x2 < x0 then some 0 else some 1
set_option maxHeartbeats 4000000 in
set_option maxRecDepth 100000 in
theorem w_X11_in_0 (X : Cx g RX11 cX11_in 3 (some .boolean) p s m args meth c) (x0 : Int32) (x1 : Int32) (x2 : Int32) (σ : St) {w : Int32} (KR : ∀ (H : Heap) (locs : List Loc) (ls : Array Slot) (pc : Nat), Wd g s σ H locs → decode cX11_in pc = .ok (.ireturn, 1) → W p l e (rmm 0 0) s m args below meth c H locs 0 0 Q (F0 m pc ls [.int (w)])) {H : Heap} {locs : List Loc} {ls : Array Slot} (Y : Wd g s σ H locs) (hl : lv_has ls 3 [(0, .int (x0)), (1, .int (x1)), (2, .int (x2))]) (h : f_X11_in_0 x0 x1 x2 = some w) : W p l e (rmm 0 0) s m args below meth c H locs 0 0 Q (F0 m 0 ls []) := by
  unfold f_X11_in_0 at h
  refine lv_iload_n X.1 X.2.1 (dk T_X11_in 0 rfl) rfl (lv_at hl 0 rfl) ?_
  refine lv_iload_n X.1 X.2.1 (dk T_X11_in 1 rfl) rfl (lv_at hl 1 rfl) ?_
  refine lv_icmp_lt (tgt := 14) X.1 X.2.1 (dk T_X11_in 2 rfl) rfl (fun c1 => ?_) (fun c1 => ?_)
  · replace h := ipos c1 h
    refine lv_iconst (v := 0) X.1 X.2.1 (dk T_X11_in 8 rfl) ic_0 ?_
    obtain rfl := Option.some.inj h
    exact KR _ _ _ _ Y (dk T_X11_in 9 rfl)
  · replace h := ineg c1 h
    refine lv_iload_n X.1 X.2.1 (dk T_X11_in 3 rfl) rfl (lv_at hl 0 rfl) ?_
    refine lv_iload_n X.1 X.2.1 (dk T_X11_in 4 rfl) rfl (lv_at hl 2 rfl) ?_
    refine lv_icmp_gt (tgt := 14) X.1 X.2.1 (dk T_X11_in 5 rfl) rfl (fun c2 => ?_) (fun c2 => ?_)
    · replace h := ipos c2 h
      refine lv_iconst (v := 0) X.1 X.2.1 (dk T_X11_in 8 rfl) ic_0 ?_
      obtain rfl := Option.some.inj h
      exact KR _ _ _ _ Y (dk T_X11_in 9 rfl)
    · replace h := ineg c2 h
      refine lv_iconst (v := 1) X.1 X.2.1 (dk T_X11_in 6 rfl) ic_1 ?_
      refine lv_goto (tgt := 15) X.1 X.2.1 (dk T_X11_in 7 rfl) rfl ?_
      obtain rfl := Option.some.inj h
      exact KR _ _ _ _ Y (dk T_X11_in 9 rfl)
def f_X11_in (x0 : Int32) (x1 : Int32) (x2 : Int32) : Option (Int32) := bz (f_X11_in_0 x0 x1 x2)
set_option maxHeartbeats 4000000 in
set_option maxRecDepth 100000 in
theorem c_X11_in {l : Launch} {g : Geo} (x0 : Int32) (x1 : Int32) (x2 : Int32) (σ : St) {w : Int32} (h : f_X11_in x0 x1 x2 = some w) : CtI l yX11_in cX11_in 3 (some .boolean) (rmm 0 0) g [.int (x0), .int (x1), .int (x2)] σ w σ := by
  obtain ⟨h, hz⟩ := bz_s h
  exact enI .boolean (by decide) rfl (bz_n hz) (Nat.le_of_ble_eq_true rfl) (fun p e s m args below meth c Q X Y ls hl KR => w_X11_in_0 X x0 x1 x2 σ KR Y hl h)
def I_X11_isSheetForm : List (Nat × Instr × Nat) := [(0, .iload_n 0, 1), (1, .iconst 2, 1), (2, .bipush 10, 2), (4, .invokestatic 75, 3), (7, .ifCond .eq 26, 3), (10, .iload_n 1, 1), (11, .iconst 2, 1), (12, .bipush 10, 2), (14, .invokestatic 75, 3), (17, .ifCond .eq 16, 3), (20, .iload_n 2, 1), (21, .iconst 0, 1), (22, .iconst 2, 1), (23, .invokestatic 75, 3), (26, .ifCond .eq 7, 3), (29, .iconst 1, 1), (30, .goto 4, 3), (33, .iconst 0, 1), (34, .ireturn, 1)]
set_option maxRecDepth 100000 in
theorem T_X11_isSheetForm : ∀ q ∈ I_X11_isSheetForm, decode cX11_isSheetForm q.1 = .ok (q.2.1, q.2.2) := by decide +kernel
def f_X11_isSheetForm_0 (x0 : Int32) (x1 : Int32) (x2 : Int32) : Option (Int32) :=
  (f_X11_in x0 2 10).bind fun q1 => if q1 = 0 then some 0 else (f_X11_in x1 2 10).bind fun q3 => if q3 = 0 then some 0 else (f_X11_in x2 0 2).bind fun q5 => if q5 = 0 then some 0 else some 1
set_option maxHeartbeats 4000000 in
set_option maxRecDepth 100000 in
theorem w_X11_isSheetForm_0 (X : Cx g RX11 cX11_isSheetForm 3 (some .boolean) p s m args meth c) (x0 : Int32) (x1 : Int32) (x2 : Int32) (σ : St) {w : Int32} (KR : ∀ (H : Heap) (locs : List Loc) (ls : Array Slot) (pc : Nat), Wd g s σ H locs → decode cX11_isSheetForm pc = .ok (.ireturn, 1) → W p l e (rmm 1 22) s m args below meth c H locs 0 0 Q (F0 m pc ls [.int (w)])) {H : Heap} {locs : List Loc} {ls : Array Slot} (Y : Wd g s σ H locs) (hl : lv_has ls 3 [(0, .int (x0)), (1, .int (x1)), (2, .int (x2))]) (h : f_X11_isSheetForm_0 x0 x1 x2 = some w) : W p l e (rmm 1 22) s m args below meth c H locs 0 0 Q (F0 m 0 ls []) := by
  unfold f_X11_isSheetForm_0 at h
  refine lv_iload_n X.1 X.2.1 (dk T_X11_isSheetForm 0 rfl) rfl (lv_at hl 0 rfl) ?_
  refine lv_iconst (v := 2) X.1 X.2.1 (dk T_X11_isSheetForm 1 rfl) ic_2 ?_
  refine lv_bipush (v := 10) X.1 X.2.1 (dk T_X11_isSheetForm 2 rfl) bp_10 ?_
  obtain ⟨q1, hq1, h⟩ := bs h
  refine gsI (rest := []) X Y (c_X11_in x0 2 10 σ hq1) cb_X11_75 hl.1 rfl rfl (Nat.le_of_ble_eq_true rfl) ⟨Nat.le_of_ble_eq_true rfl, Nat.le_of_ble_eq_true rfl⟩ (dk T_X11_isSheetForm 3 rfl) (fun H locs Y => ?_)
  refine lv_if_eq (tgt := 33) X.1 X.2.1 (dk T_X11_isSheetForm 4 rfl) rfl (fun c2 => ?_) (fun c2 => ?_)
  · replace h := ipos c2 h
    refine lv_iconst (v := 0) X.1 X.2.1 (dk T_X11_isSheetForm 17 rfl) ic_0 ?_
    obtain rfl := Option.some.inj h
    exact KR _ _ _ _ Y (dk T_X11_isSheetForm 18 rfl)
  · replace h := ineg c2 h
    refine lv_iload_n X.1 X.2.1 (dk T_X11_isSheetForm 5 rfl) rfl (lv_at hl 1 rfl) ?_
    refine lv_iconst (v := 2) X.1 X.2.1 (dk T_X11_isSheetForm 6 rfl) ic_2 ?_
    refine lv_bipush (v := 10) X.1 X.2.1 (dk T_X11_isSheetForm 7 rfl) bp_10 ?_
    obtain ⟨q3, hq3, h⟩ := bs h
    refine gsI (rest := []) X Y (c_X11_in x1 2 10 σ hq3) cb_X11_75 hl.1 rfl rfl (Nat.le_of_ble_eq_true rfl) ⟨Nat.le_of_ble_eq_true rfl, Nat.le_of_ble_eq_true rfl⟩ (dk T_X11_isSheetForm 8 rfl) (fun H locs Y => ?_)
    refine lv_if_eq (tgt := 33) X.1 X.2.1 (dk T_X11_isSheetForm 9 rfl) rfl (fun c4 => ?_) (fun c4 => ?_)
    · replace h := ipos c4 h
      refine lv_iconst (v := 0) X.1 X.2.1 (dk T_X11_isSheetForm 17 rfl) ic_0 ?_
      obtain rfl := Option.some.inj h
      exact KR _ _ _ _ Y (dk T_X11_isSheetForm 18 rfl)
    · replace h := ineg c4 h
      refine lv_iload_n X.1 X.2.1 (dk T_X11_isSheetForm 10 rfl) rfl (lv_at hl 2 rfl) ?_
      refine lv_iconst (v := 0) X.1 X.2.1 (dk T_X11_isSheetForm 11 rfl) ic_0 ?_
      refine lv_iconst (v := 2) X.1 X.2.1 (dk T_X11_isSheetForm 12 rfl) ic_2 ?_
      obtain ⟨q5, hq5, h⟩ := bs h
      refine gsI (rest := []) X Y (c_X11_in x2 0 2 σ hq5) cb_X11_75 hl.1 rfl rfl (Nat.le_of_ble_eq_true rfl) ⟨Nat.le_of_ble_eq_true rfl, Nat.le_of_ble_eq_true rfl⟩ (dk T_X11_isSheetForm 13 rfl) (fun H locs Y => ?_)
      refine lv_if_eq (tgt := 33) X.1 X.2.1 (dk T_X11_isSheetForm 14 rfl) rfl (fun c6 => ?_) (fun c6 => ?_)
      · replace h := ipos c6 h
        refine lv_iconst (v := 0) X.1 X.2.1 (dk T_X11_isSheetForm 17 rfl) ic_0 ?_
        obtain rfl := Option.some.inj h
        exact KR _ _ _ _ Y (dk T_X11_isSheetForm 18 rfl)
      · replace h := ineg c6 h
        refine lv_iconst (v := 1) X.1 X.2.1 (dk T_X11_isSheetForm 15 rfl) ic_1 ?_
        refine lv_goto (tgt := 34) X.1 X.2.1 (dk T_X11_isSheetForm 16 rfl) rfl ?_
        obtain rfl := Option.some.inj h
        exact KR _ _ _ _ Y (dk T_X11_isSheetForm 18 rfl)
def f_X11_isSheetForm (x0 : Int32) (x1 : Int32) (x2 : Int32) : Option (Int32) := bz (f_X11_isSheetForm_0 x0 x1 x2)
set_option maxHeartbeats 4000000 in
set_option maxRecDepth 100000 in
theorem c_X11_isSheetForm {l : Launch} {g : Geo} (x0 : Int32) (x1 : Int32) (x2 : Int32) (σ : St) {w : Int32} (h : f_X11_isSheetForm x0 x1 x2 = some w) : CtI l yX11_isSheetForm cX11_isSheetForm 3 (some .boolean) (rmm 1 22) g [.int (x0), .int (x1), .int (x2)] σ w σ := by
  obtain ⟨h, hz⟩ := bz_s h
  exact enI .boolean (by decide) rfl (bz_n hz) (Nat.le_of_ble_eq_true rfl) (fun p e s m args below meth c Q X Y ls hl KR => w_X11_isSheetForm_0 X x0 x1 x2 σ KR Y hl h)
def I_X11_fails : List (Nat × Instr × Nat) := [(0, .aload_n 0, 1), (1, .iload_n 1, 1), (2, .putfield 71, 3), (5, .iconst 0, 1), (6, .ireturn, 1)]
set_option maxRecDepth 100000 in
theorem T_X11_fails : ∀ q ∈ I_X11_fails, decode cX11_fails q.1 = .ok (q.2.1, q.2.2) := by decide +kernel
def f_X11_fails_0 (x1 : Int32) (σ : St) : Option (Int32 × St) :=
  some (0, up σ 101 0 x1)
set_option maxHeartbeats 4000000 in
set_option maxRecDepth 100000 in
theorem w_X11_fails_0 (X : Cx g RX11 cX11_fails 2 (some .int) p s m args meth c) (x1 : Int32) (σ : St) {w : Int32 × St} (KR : ∀ (H : Heap) (locs : List Loc) (ls : Array Slot) (pc : Nat), Wd g s w.2 H locs → decode cX11_fails pc = .ok (.ireturn, 1) → W p l e (rmm 0 0) s m args below meth c H locs 0 0 Q (F0 m pc ls [.int (w.1)])) {H : Heap} {locs : List Loc} {ls : Array Slot} (Y : Wd g s σ H locs) (hl : lv_has ls 2 [(0, .ref (g.2.2 (101))), (1, .int (x1))]) (h : f_X11_fails_0 x1 σ = some w) : W p l e (rmm 0 0) s m args below meth c H locs 0 0 Q (F0 m 0 ls []) := by
  unfold f_X11_fails_0 at h
  refine lv_aload_n X.1 X.2.1 (dk T_X11_fails 0 rfl) rfl (lv_at hl 0 rfl) ?_
  refine lv_iload_n X.1 X.2.1 (dk T_X11_fails 1 rfl) rfl (lv_at hl 1 rfl) ?_
  refine gp X Y fp_X11_71 rfl (nar_int _) (dk T_X11_fails 2 rfl) (fun H locs Y => ?_)
  refine lv_iconst (v := 0) X.1 X.2.1 (dk T_X11_fails 3 rfl) ic_0 ?_
  obtain rfl := Option.some.inj h
  exact KR _ _ _ _ Y (dk T_X11_fails 4 rfl)
def f_X11_fails (x1 : Int32) (σ : St) : Option (Int32 × St) := f_X11_fails_0 x1 σ
set_option maxHeartbeats 4000000 in
set_option maxRecDepth 100000 in
theorem c_X11_fails {l : Launch} {g : Geo} (x1 : Int32) (σ : St) {w : Int32 × St} (h : f_X11_fails x1 σ = some w) : CtI l yX11_fails cX11_fails 2 (some .int) (rmm 0 0) g [.ref (g.2.2 (101)), .int (x1)] σ w.1 w.2 := enI .int (by decide) rfl rfl (Nat.le_of_ble_eq_true rfl) (fun p e s m args below meth c Q X Y ls hl KR => w_X11_fails_0 X x1 σ KR Y hl h)
def I_X11_frames : List (Nat × Instr × Nat) := [(0, .iconst 0, 1), (1, .istore_n 1, 1), (2, .iload_n 1, 1), (3, .sipush 761, 3), (6, .if_icmp .ge 21, 3), (9, .aload_n 0, 1), (10, .getfield 16, 3), (13, .iload_n 1, 1), (14, .aload_n 0, 1), (15, .getfield 7, 3), (18, .iload_n 1, 1), (19, .iaload, 1), (20, .iastore, 1), (21, .iinc 1 1, 3), (24, .goto (-22), 3), (27, .return_, 1)]
set_option maxRecDepth 100000 in
theorem T_X11_frames : ∀ q ∈ I_X11_frames, decode cX11_frames q.1 = .ok (q.2.1, q.2.2) := by decide +kernel
def f_X11_frames_l2 (z : Int32 × St) : Option ((Int32 × St) ⊕ (St)) :=
  if 761 ≤ z.1 then some (.inr z.2) else chk (inb z.1 761) (chk (inb z.1 761) (some (.inl (z.1 + 1, up z.2 104 z.1.toNatClampNeg (z.2 102 z.1.toNatClampNeg)))))
set_option maxHeartbeats 4000000 in
set_option maxRecDepth 100000 in
theorem w_X11_frames_l2 (X : Cx g RX11 cX11_frames 2 none p s m args meth c) (σ : St) {r : St} (KX0 : ∀ (v : St), r = v → ∀ (H : Heap) (locs : List Loc) (ls : Array Slot), Wd g s v H locs → lv_has ls 2 [] → W p l e (rmm 0 0) s m args below meth c H locs 0 0 Q (F0 m 27 ls [])) : ∀ (n : Nat) (z : Int32 × St) {H : Heap} {locs : List Loc} {ls : Array Slot}, Wd g s z.2 H locs → lv_has ls 2 [(0, .ref (g.2.2 (101))), (1, .int (z.1))] → lp (f_X11_frames_l2) n z = some r → W p l e (rmm 0 0) s m args below meth c H locs 0 0 Q (F0 m 2 ls []) := by
  intro n
  induction n with
  | zero => intro z H locs ls Y hl h; cases h
  | succ n ih =>
    intro z H locs ls Y hl h
    obtain ⟨w, h, hw⟩ := lps h
    have KB : ∀ (v0_ : Int32) (v1_ : St), w = .inl (v0_, v1_) → ∀ (H : Heap) (locs : List Loc) (ls : Array Slot), Wd g s v1_ H locs → lv_has ls 2 [(0, .ref (g.2.2 (101))), (1, .int (v0_))] → W p l e (rmm 0 0) s m args below meth c H locs 0 0 Q (F0 m 2 ls []) := fun v0_ v1_ e H locs ls Y hl => ih (v0_, v1_) Y hl (lpl hw e)
    have KX0 := fun (v : St) (e : w = .inr v) => KX0 v (lpr hw e)
    unfold f_X11_frames_l2 at h
    refine lv_iload_n X.1 X.2.1 (dk T_X11_frames 2 rfl) rfl (lv_at hl 1 rfl) ?_
    refine lv_sipush (v := 761) X.1 X.2.1 (dk T_X11_frames 3 rfl) sp_761 ?_
    refine lv_icmp_ge (tgt := 27) X.1 X.2.1 (dk T_X11_frames 4 rfl) rfl (fun c1 => ?_) (fun c1 => ?_)
    · replace h := ipos c1 h
      exact KX0 z.2 (Option.some.inj h).symm _ _ _ Y (lv_sub hl [] rfl)
    · replace h := ineg c1 h
      refine lv_aload_n X.1 X.2.1 (dk T_X11_frames 5 rfl) rfl (lv_at hl 0 rfl) ?_
      refine gg X Y fl_X11_16 rfl rfl (dk T_X11_frames 6 rfl) ?_
      refine lv_iload_n X.1 X.2.1 (dk T_X11_frames 7 rfl) rfl (lv_at hl 1 rfl) ?_
      refine lv_aload_n X.1 X.2.1 (dk T_X11_frames 8 rfl) rfl (lv_at hl 0 rfl) ?_
      refine gg X Y fl_X11_7 rfl rfl (dk T_X11_frames 9 rfl) ?_
      refine lv_iload_n X.1 X.2.1 (dk T_X11_frames 10 rfl) rfl (lv_at hl 1 rfl) ?_
      obtain ⟨g2, h⟩ := gd h
      refine gil X Y rfl (inp g2) (dk T_X11_frames 11 rfl) ?_
      obtain ⟨g3, h⟩ := gd h
      refine gis X Y rfl (inp g3) (dk T_X11_frames 12 rfl) (fun H locs Y => ?_)
      refine lv_iinc (v := z.1 + 1) (lv' := [(1, .int (z.1 + 1)), (0, .ref (g.2.2 (101)))]) X.1 X.2.1 (dk T_X11_frames 13 rfl) hl (k := 1) rfl (icx ic_1) (Nat.le_of_ble_eq_true rfl) rfl (fun ls hl => ?_)
      refine lv_goto (tgt := 2) X.1 X.2.1 (dk T_X11_frames 14 rfl) rfl ?_
      exact KB (z.1 + 1) (up z.2 104 z.1.toNatClampNeg (z.2 102 z.1.toNatClampNeg)) (Option.some.inj h).symm _ _ _ Y (lv_sub hl [1, 0] rfl)
def f_X11_frames_0 (σ : St) : Option (St) :=
  (lp (f_X11_frames_l2) FU (0, σ)).bind fun q4 => some q4
set_option maxHeartbeats 4000000 in
set_option maxRecDepth 100000 in
theorem w_X11_frames_0 (X : Cx g RX11 cX11_frames 2 none p s m args meth c) (σ : St) {w : St} (KR : ∀ (H : Heap) (locs : List Loc) (ls : Array Slot) (pc : Nat), Wd g s w H locs → decode cX11_frames pc = .ok (.return_, 1) → W p l e (rmm 0 0) s m args below meth c H locs 0 0 Q (F0 m pc ls [])) {H : Heap} {locs : List Loc} {ls : Array Slot} (Y : Wd g s σ H locs) (hl : lv_has ls 2 [(0, .ref (g.2.2 (101)))]) (h : f_X11_frames_0 σ = some w) : W p l e (rmm 0 0) s m args below meth c H locs 0 0 Q (F0 m 0 ls []) := by
  unfold f_X11_frames_0 at h
  refine lv_iconst (v := 0) X.1 X.2.1 (dk T_X11_frames 0 rfl) ic_0 ?_
  refine lv_istore_n (lv' := [(1, .int (0)), (0, .ref (g.2.2 (101)))]) X.1 X.2.1 (dk T_X11_frames 1 rfl) rfl hl (Nat.le_of_ble_eq_true rfl) rfl (fun ls hl => ?_)
  obtain ⟨q4, hq4, h⟩ := bs h
  refine w_X11_frames_l2 X σ (fun v e H locs ls Y hl => ?_) FU (0, σ) Y (lv_sub hl [1, 0] rfl) hq4
  · obtain rfl := e
    obtain rfl := Option.some.inj h
    exact KR _ _ _ _ Y (dk T_X11_frames 15 rfl)
def f_X11_frames (σ : St) : Option (St) := f_X11_frames_0 σ
set_option maxHeartbeats 4000000 in
set_option maxRecDepth 100000 in
theorem c_X11_frames {l : Launch} {g : Geo} (σ : St) {w : St} (h : f_X11_frames σ = some w) : CtV l yX11_frames cX11_frames 2 none (rmm 0 0) g [.ref (g.2.2 (101))] σ w := enV (by decide) rfl (Nat.le_of_ble_eq_true rfl) (fun p e s m args below meth c Q X Y ls hl KR => w_X11_frames_0 X σ KR Y hl h)
def I_X11_keeps : List (Nat × Instr × Nat) := [(0, .aload_n 0, 1), (1, .getfield 79, 3), (4, .bipush 8, 2), (6, .if_icmp .ne 37, 3), (9, .iconst 0, 1), (10, .istore_n 1, 1), (11, .iload_n 1, 1), (12, .sipush 5327, 3), (15, .if_icmp .ge 25, 3), (18, .aload_n 0, 1), (19, .getfield 19, 3), (22, .iload_n 1, 1), (23, .aload_n 0, 1), (24, .getfield 19, 3), (27, .iload_n 1, 1), (28, .sipush 761, 3), (31, .iadd, 1), (32, .iaload, 1), (33, .iastore, 1), (34, .iinc 1 1, 3), (37, .goto (-26), 3), (40, .goto 13, 3), (43, .aload_n 0, 1), (44, .dup, 1), (45, .getfield 79, 3), (48, .iconst 1, 1), (49, .iadd, 1), (50, .putfield 79, 3), (53, .iconst 0, 1), (54, .istore_n 1, 1), (55, .iload_n 1, 1), (56, .sipush 761, 3), (59, .if_icmp .ge 32, 3), (62, .aload_n 0, 1), (63, .getfield 19, 3), (66, .sipush 761, 3), (69, .aload_n 0, 1), (70, .getfield 79, 3), (73, .iconst 1, 1), (74, .isub, 1), (75, .imul, 1), (76, .iload_n 1, 1), (77, .iadd, 1), (78, .aload_n 0, 1), (79, .getfield 16, 3), (82, .iload_n 1, 1), (83, .iaload, 1), (84, .iastore, 1), (85, .iinc 1 1, 3), (88, .goto (-33), 3), (91, .return_, 1)]
set_option maxRecDepth 100000 in
theorem T_X11_keeps : ∀ q ∈ I_X11_keeps, decode cX11_keeps q.1 = .ok (q.2.1, q.2.2) := by decide +kernel
def f_X11_keeps_l55 (z : Int32 × St) : Option ((Int32 × St) ⊕ (St)) :=
  if 761 ≤ z.1 then some (.inr z.2) else chk (inb z.1 761) (chk (inb ((761 * ((z.2 101 5) - 1)) + z.1) 6088) (some (.inl (z.1 + 1, up z.2 105 ((761 * ((z.2 101 5) - 1)) + z.1).toNatClampNeg (z.2 104 z.1.toNatClampNeg)))))
set_option maxHeartbeats 4000000 in
set_option maxRecDepth 100000 in
theorem w_X11_keeps_l55 (X : Cx g RX11 cX11_keeps 2 none p s m args meth c) (σ : St) {r : St} (KX0 : ∀ (v : St), r = v → ∀ (H : Heap) (locs : List Loc) (ls : Array Slot), Wd g s v H locs → lv_has ls 2 [] → W p l e (rmm 0 0) s m args below meth c H locs 0 0 Q (F0 m 91 ls [])) : ∀ (n : Nat) (z : Int32 × St) {H : Heap} {locs : List Loc} {ls : Array Slot}, Wd g s z.2 H locs → lv_has ls 2 [(0, .ref (g.2.2 (101))), (1, .int (z.1))] → lp (f_X11_keeps_l55) n z = some r → W p l e (rmm 0 0) s m args below meth c H locs 0 0 Q (F0 m 55 ls []) := by
  intro n
  induction n with
  | zero => intro z H locs ls Y hl h; cases h
  | succ n ih =>
    intro z H locs ls Y hl h
    obtain ⟨w, h, hw⟩ := lps h
    have KB : ∀ (v0_ : Int32) (v1_ : St), w = .inl (v0_, v1_) → ∀ (H : Heap) (locs : List Loc) (ls : Array Slot), Wd g s v1_ H locs → lv_has ls 2 [(0, .ref (g.2.2 (101))), (1, .int (v0_))] → W p l e (rmm 0 0) s m args below meth c H locs 0 0 Q (F0 m 55 ls []) := fun v0_ v1_ e H locs ls Y hl => ih (v0_, v1_) Y hl (lpl hw e)
    have KX0 := fun (v : St) (e : w = .inr v) => KX0 v (lpr hw e)
    unfold f_X11_keeps_l55 at h
    refine lv_iload_n X.1 X.2.1 (dk T_X11_keeps 30 rfl) rfl (lv_at hl 1 rfl) ?_
    refine lv_sipush (v := 761) X.1 X.2.1 (dk T_X11_keeps 31 rfl) sp_761 ?_
    refine lv_icmp_ge (tgt := 91) X.1 X.2.1 (dk T_X11_keeps 32 rfl) rfl (fun c2 => ?_) (fun c2 => ?_)
    · replace h := ipos c2 h
      exact KX0 z.2 (Option.some.inj h).symm _ _ _ Y (lv_sub hl [] rfl)
    · replace h := ineg c2 h
      refine lv_aload_n X.1 X.2.1 (dk T_X11_keeps 33 rfl) rfl (lv_at hl 0 rfl) ?_
      refine gg X Y fl_X11_19 rfl rfl (dk T_X11_keeps 34 rfl) ?_
      refine lv_sipush (v := 761) X.1 X.2.1 (dk T_X11_keeps 35 rfl) sp_761 ?_
      refine lv_aload_n X.1 X.2.1 (dk T_X11_keeps 36 rfl) rfl (lv_at hl 0 rfl) ?_
      refine gg X Y fl_X11_79 rfl rfl (dk T_X11_keeps 37 rfl) ?_
      refine lv_iconst (v := 1) X.1 X.2.1 (dk T_X11_keeps 38 rfl) ic_1 ?_
      refine lv_isub X.1 X.2.1 (dk T_X11_keeps 39 rfl) ?_
      refine lv_imul X.1 X.2.1 (dk T_X11_keeps 40 rfl) ?_
      refine lv_iload_n X.1 X.2.1 (dk T_X11_keeps 41 rfl) rfl (lv_at hl 1 rfl) ?_
      refine lv_iadd X.1 X.2.1 (dk T_X11_keeps 42 rfl) ?_
      refine lv_aload_n X.1 X.2.1 (dk T_X11_keeps 43 rfl) rfl (lv_at hl 0 rfl) ?_
      refine gg X Y fl_X11_16 rfl rfl (dk T_X11_keeps 44 rfl) ?_
      refine lv_iload_n X.1 X.2.1 (dk T_X11_keeps 45 rfl) rfl (lv_at hl 1 rfl) ?_
      obtain ⟨g3, h⟩ := gd h
      refine gil X Y rfl (inp g3) (dk T_X11_keeps 46 rfl) ?_
      obtain ⟨g4, h⟩ := gd h
      refine gis X Y rfl (inp g4) (dk T_X11_keeps 47 rfl) (fun H locs Y => ?_)
      refine lv_iinc (v := z.1 + 1) (lv' := [(1, .int (z.1 + 1)), (0, .ref (g.2.2 (101)))]) X.1 X.2.1 (dk T_X11_keeps 48 rfl) hl (k := 1) rfl (icx ic_1) (Nat.le_of_ble_eq_true rfl) rfl (fun ls hl => ?_)
      refine lv_goto (tgt := 55) X.1 X.2.1 (dk T_X11_keeps 49 rfl) rfl ?_
      exact KB (z.1 + 1) (up z.2 105 ((761 * ((z.2 101 5) - 1)) + z.1).toNatClampNeg (z.2 104 z.1.toNatClampNeg)) (Option.some.inj h).symm _ _ _ Y (lv_sub hl [1, 0] rfl)
def f_X11_keeps_j53 (σ : St) : Option (St) :=
  (lp (f_X11_keeps_l55) FU (0, σ)).bind fun q5 => some q5
set_option maxHeartbeats 4000000 in
set_option maxRecDepth 100000 in
theorem w_X11_keeps_j53 (X : Cx g RX11 cX11_keeps 2 none p s m args meth c) (σ : St) {w : St} (KR : ∀ (H : Heap) (locs : List Loc) (ls : Array Slot) (pc : Nat), Wd g s w H locs → decode cX11_keeps pc = .ok (.return_, 1) → W p l e (rmm 0 0) s m args below meth c H locs 0 0 Q (F0 m pc ls [])) {H : Heap} {locs : List Loc} {ls : Array Slot} (Y : Wd g s σ H locs) (hl : lv_has ls 2 [(0, .ref (g.2.2 (101)))]) (h : f_X11_keeps_j53 σ = some w) : W p l e (rmm 0 0) s m args below meth c H locs 0 0 Q (F0 m 53 ls []) := by
  unfold f_X11_keeps_j53 at h
  refine lv_iconst (v := 0) X.1 X.2.1 (dk T_X11_keeps 28 rfl) ic_0 ?_
  refine lv_istore_n (lv' := [(1, .int (0)), (0, .ref (g.2.2 (101)))]) X.1 X.2.1 (dk T_X11_keeps 29 rfl) rfl hl (Nat.le_of_ble_eq_true rfl) rfl (fun ls hl => ?_)
  obtain ⟨q5, hq5, h⟩ := bs h
  refine w_X11_keeps_l55 X σ (fun v e H locs ls Y hl => ?_) FU (0, σ) Y (lv_sub hl [1, 0] rfl) hq5
  · obtain rfl := e
    obtain rfl := Option.some.inj h
    exact KR _ _ _ _ Y (dk T_X11_keeps 50 rfl)
def f_X11_keeps_l11 (z : Int32 × St) : Option ((Int32 × St) ⊕ (St)) :=
  if 5327 ≤ z.1 then some (.inr z.2) else chk (inb (z.1 + 761) 6088) (chk (inb z.1 6088) (some (.inl (z.1 + 1, up z.2 105 z.1.toNatClampNeg (z.2 105 (z.1 + 761).toNatClampNeg)))))
set_option maxHeartbeats 4000000 in
set_option maxRecDepth 100000 in
theorem w_X11_keeps_l11 (X : Cx g RX11 cX11_keeps 2 none p s m args meth c) (σ : St) {r : St} (KX0 : ∀ (v : St), r = v → ∀ (H : Heap) (locs : List Loc) (ls : Array Slot), Wd g s v H locs → lv_has ls 2 [(0, .ref (g.2.2 (101)))] → W p l e (rmm 0 0) s m args below meth c H locs 0 0 Q (F0 m 40 ls [])) : ∀ (n : Nat) (z : Int32 × St) {H : Heap} {locs : List Loc} {ls : Array Slot}, Wd g s z.2 H locs → lv_has ls 2 [(0, .ref (g.2.2 (101))), (1, .int (z.1))] → lp (f_X11_keeps_l11) n z = some r → W p l e (rmm 0 0) s m args below meth c H locs 0 0 Q (F0 m 11 ls []) := by
  intro n
  induction n with
  | zero => intro z H locs ls Y hl h; cases h
  | succ n ih =>
    intro z H locs ls Y hl h
    obtain ⟨w, h, hw⟩ := lps h
    have KB : ∀ (v0_ : Int32) (v1_ : St), w = .inl (v0_, v1_) → ∀ (H : Heap) (locs : List Loc) (ls : Array Slot), Wd g s v1_ H locs → lv_has ls 2 [(0, .ref (g.2.2 (101))), (1, .int (v0_))] → W p l e (rmm 0 0) s m args below meth c H locs 0 0 Q (F0 m 11 ls []) := fun v0_ v1_ e H locs ls Y hl => ih (v0_, v1_) Y hl (lpl hw e)
    have KX0 := fun (v : St) (e : w = .inr v) => KX0 v (lpr hw e)
    unfold f_X11_keeps_l11 at h
    refine lv_iload_n X.1 X.2.1 (dk T_X11_keeps 6 rfl) rfl (lv_at hl 1 rfl) ?_
    refine lv_sipush (v := 5327) X.1 X.2.1 (dk T_X11_keeps 7 rfl) sp_5327 ?_
    refine lv_icmp_ge (tgt := 40) X.1 X.2.1 (dk T_X11_keeps 8 rfl) rfl (fun c6 => ?_) (fun c6 => ?_)
    · replace h := ipos c6 h
      exact KX0 z.2 (Option.some.inj h).symm _ _ _ Y (lv_sub hl [0] rfl)
    · replace h := ineg c6 h
      refine lv_aload_n X.1 X.2.1 (dk T_X11_keeps 9 rfl) rfl (lv_at hl 0 rfl) ?_
      refine gg X Y fl_X11_19 rfl rfl (dk T_X11_keeps 10 rfl) ?_
      refine lv_iload_n X.1 X.2.1 (dk T_X11_keeps 11 rfl) rfl (lv_at hl 1 rfl) ?_
      refine lv_aload_n X.1 X.2.1 (dk T_X11_keeps 12 rfl) rfl (lv_at hl 0 rfl) ?_
      refine gg X Y fl_X11_19 rfl rfl (dk T_X11_keeps 13 rfl) ?_
      refine lv_iload_n X.1 X.2.1 (dk T_X11_keeps 14 rfl) rfl (lv_at hl 1 rfl) ?_
      refine lv_sipush (v := 761) X.1 X.2.1 (dk T_X11_keeps 15 rfl) sp_761 ?_
      refine lv_iadd X.1 X.2.1 (dk T_X11_keeps 16 rfl) ?_
      obtain ⟨g7, h⟩ := gd h
      refine gil X Y rfl (inp g7) (dk T_X11_keeps 17 rfl) ?_
      obtain ⟨g8, h⟩ := gd h
      refine gis X Y rfl (inp g8) (dk T_X11_keeps 18 rfl) (fun H locs Y => ?_)
      refine lv_iinc (v := z.1 + 1) (lv' := [(1, .int (z.1 + 1)), (0, .ref (g.2.2 (101)))]) X.1 X.2.1 (dk T_X11_keeps 19 rfl) hl (k := 1) rfl (icx ic_1) (Nat.le_of_ble_eq_true rfl) rfl (fun ls hl => ?_)
      refine lv_goto (tgt := 11) X.1 X.2.1 (dk T_X11_keeps 20 rfl) rfl ?_
      exact KB (z.1 + 1) (up z.2 105 z.1.toNatClampNeg (z.2 105 (z.1 + 761).toNatClampNeg)) (Option.some.inj h).symm _ _ _ Y (lv_sub hl [1, 0] rfl)
def f_X11_keeps_0 (σ : St) : Option (St) :=
  if (σ 101 5) = 8 then (lp (f_X11_keeps_l11) FU (0, σ)).bind fun q9 => f_X11_keeps_j53 q9 else f_X11_keeps_j53 (up σ 101 5 ((σ 101 5) + 1))
set_option maxHeartbeats 4000000 in
set_option maxRecDepth 100000 in
theorem w_X11_keeps_0 (X : Cx g RX11 cX11_keeps 2 none p s m args meth c) (σ : St) {w : St} (KR : ∀ (H : Heap) (locs : List Loc) (ls : Array Slot) (pc : Nat), Wd g s w H locs → decode cX11_keeps pc = .ok (.return_, 1) → W p l e (rmm 0 0) s m args below meth c H locs 0 0 Q (F0 m pc ls [])) {H : Heap} {locs : List Loc} {ls : Array Slot} (Y : Wd g s σ H locs) (hl : lv_has ls 2 [(0, .ref (g.2.2 (101)))]) (h : f_X11_keeps_0 σ = some w) : W p l e (rmm 0 0) s m args below meth c H locs 0 0 Q (F0 m 0 ls []) := by
  unfold f_X11_keeps_0 at h
  refine lv_aload_n X.1 X.2.1 (dk T_X11_keeps 0 rfl) rfl (lv_at hl 0 rfl) ?_
  refine gg X Y fl_X11_79 rfl rfl (dk T_X11_keeps 1 rfl) ?_
  refine lv_bipush (v := 8) X.1 X.2.1 (dk T_X11_keeps 2 rfl) bp_8 ?_
  refine lv_icmp_ne (tgt := 43) X.1 X.2.1 (dk T_X11_keeps 3 rfl) rfl (fun c1 => ?_) (fun c1 => ?_)
  · replace h := ineg c1 h
    refine lv_aload_n X.1 X.2.1 (dk T_X11_keeps 22 rfl) rfl (lv_at hl 0 rfl) ?_
    refine lv_dup X.1 X.2.1 (dk T_X11_keeps 23 rfl) rfl ?_
    refine gg X Y fl_X11_79 rfl rfl (dk T_X11_keeps 24 rfl) ?_
    refine lv_iconst (v := 1) X.1 X.2.1 (dk T_X11_keeps 25 rfl) ic_1 ?_
    refine lv_iadd X.1 X.2.1 (dk T_X11_keeps 26 rfl) ?_
    refine gp X Y fp_X11_79 rfl (nar_int _) (dk T_X11_keeps 27 rfl) (fun H locs Y => ?_)
    exact w_X11_keeps_j53 X (up σ 101 5 ((σ 101 5) + 1)) KR Y (lv_sub hl [0] rfl) h
  · replace h := ipos c1 h
    refine lv_iconst (v := 0) X.1 X.2.1 (dk T_X11_keeps 4 rfl) ic_0 ?_
    refine lv_istore_n (lv' := [(1, .int (0)), (0, .ref (g.2.2 (101)))]) X.1 X.2.1 (dk T_X11_keeps 5 rfl) rfl hl (Nat.le_of_ble_eq_true rfl) rfl (fun ls hl => ?_)
    obtain ⟨q9, hq9, h⟩ := bs h
    refine w_X11_keeps_l11 X σ (fun v e H locs ls Y hl => ?_) FU (0, σ) Y (lv_sub hl [1, 0] rfl) hq9
    · obtain rfl := e
      refine lv_goto (tgt := 53) X.1 X.2.1 (dk T_X11_keeps 21 rfl) rfl ?_
      exact w_X11_keeps_j53 X q9 KR Y (lv_sub hl [0] rfl) h
def f_X11_keeps (σ : St) : Option (St) := f_X11_keeps_0 σ
set_option maxHeartbeats 4000000 in
set_option maxRecDepth 100000 in
theorem c_X11_keeps {l : Launch} {g : Geo} (σ : St) {w : St} (h : f_X11_keeps σ = some w) : CtV l yX11_keeps cX11_keeps 2 none (rmm 0 0) g [.ref (g.2.2 (101))] σ w := enV (by decide) rfl (Nat.le_of_ble_eq_true rfl) (fun p e s m args below meth c Q X Y ls hl KR => w_X11_keeps_0 X σ KR Y hl h)
def I_X11_changes : List (Nat × Instr × Nat) := [(0, .aload_n 0, 1), (1, .invokevirtual 82, 3), (4, .aload_n 0, 1), (5, .invokevirtual 85, 3), (8, .return_, 1)]
set_option maxRecDepth 100000 in
theorem T_X11_changes : ∀ q ∈ I_X11_changes, decode cX11_changes q.1 = .ok (q.2.1, q.2.2) := by decide +kernel
def f_X11_changes_0 (σ : St) : Option (St) :=
  (f_X11_frames σ).bind fun q1 => (f_X11_keeps q1).bind fun q2 => some q2
set_option maxHeartbeats 4000000 in
set_option maxRecDepth 100000 in
theorem w_X11_changes_0 (X : Cx g RX11 cX11_changes 1 none p s m args meth c) (σ : St) {w : St} (KR : ∀ (H : Heap) (locs : List Loc) (ls : Array Slot) (pc : Nat), Wd g s w H locs → decode cX11_changes pc = .ok (.return_, 1) → W p l e (rmm 1 21) s m args below meth c H locs 0 0 Q (F0 m pc ls [])) {H : Heap} {locs : List Loc} {ls : Array Slot} (Y : Wd g s σ H locs) (hl : lv_has ls 1 [(0, .ref (g.2.2 (101)))]) (h : f_X11_changes_0 σ = some w) : W p l e (rmm 1 21) s m args below meth c H locs 0 0 Q (F0 m 0 ls []) := by
  unfold f_X11_changes_0 at h
  refine lv_aload_n X.1 X.2.1 (dk T_X11_changes 0 rfl) rfl (lv_at hl 0 rfl) ?_
  obtain ⟨q1, hq1, h⟩ := bs h
  refine gvV (rest := []) X Y (c_X11_frames σ hq1) cb_X11_82 rfl hl.1 rfl rfl (Nat.le_of_ble_eq_true rfl) ⟨Nat.le_of_ble_eq_true rfl, Nat.le_of_ble_eq_true rfl⟩ (dk T_X11_changes 1 rfl) (fun H locs Y => ?_)
  refine lv_aload_n X.1 X.2.1 (dk T_X11_changes 2 rfl) rfl (lv_at hl 0 rfl) ?_
  obtain ⟨q2, hq2, h⟩ := bs h
  refine gvV (rest := []) X Y (c_X11_keeps q1 hq2) cb_X11_85 rfl hl.1 rfl rfl (Nat.le_of_ble_eq_true rfl) ⟨Nat.le_of_ble_eq_true rfl, Nat.le_of_ble_eq_true rfl⟩ (dk T_X11_changes 3 rfl) (fun H locs Y => ?_)
  obtain rfl := Option.some.inj h
  exact KR _ _ _ _ Y (dk T_X11_changes 4 rfl)
def f_X11_changes (σ : St) : Option (St) := f_X11_changes_0 σ
set_option maxHeartbeats 4000000 in
set_option maxRecDepth 100000 in
theorem c_X11_changes {l : Launch} {g : Geo} (σ : St) {w : St} (h : f_X11_changes σ = some w) : CtV l yX11_changes cX11_changes 1 none (rmm 1 21) g [.ref (g.2.2 (101))] σ w := enV (by decide) rfl (Nat.le_of_ble_eq_true rfl) (fun p e s m args below meth c Q X Y ls hl KR => w_X11_changes_0 X σ KR Y hl h)
def I_X11_makesSheet : List (Nat × Instr × Nat) := [(0, .aload_n 0, 1), (1, .getfield 7, 3), (4, .iconst 0, 1), (5, .iaload, 1), (6, .istore 4, 2), (8, .aload_n 0, 1), (9, .getfield 7, 3), (12, .iconst 0, 1), (13, .dup2, 1), (14, .iaload, 1), (15, .iconst 1, 1), (16, .iadd, 1), (17, .iastore, 1), (18, .aload_n 0, 1), (19, .getfield 7, 3), (22, .iconst 3, 1), (23, .iload 4, 2), (25, .iadd, 1), (26, .iload_n 1, 1), (27, .iastore, 1), (28, .aload_n 0, 1), (29, .getfield 7, 3), (32, .bipush 9, 2), (34, .iload 4, 2), (36, .iadd, 1), (37, .iload_n 2, 1), (38, .iastore, 1), (39, .aload_n 0, 1), (40, .getfield 7, 3), (43, .bipush 15, 2), (45, .iload 4, 2), (47, .iadd, 1), (48, .iload_n 3, 1), (49, .iastore, 1), (50, .iconst 0, 1), (51, .istore 5, 2), (53, .iload 5, 2), (55, .bipush 100, 2), (57, .if_icmp .ge 26, 3), (60, .aload_n 0, 1), (61, .getfield 7, 3), (64, .bipush 21, 2), (66, .bipush 100, 2), (68, .iload 4, 2), (70, .imul, 1), (71, .iadd, 1), (72, .iload 5, 2), (74, .iadd, 1), (75, .iconst 1, 1), (76, .iastore, 1), (77, .iinc 5 1, 3), (80, .goto (-27), 3), (83, .iload 4, 2), (85, .ireturn, 1)]
set_option maxRecDepth 100000 in
theorem T_X11_makesSheet : ∀ q ∈ I_X11_makesSheet, decode cX11_makesSheet q.1 = .ok (q.2.1, q.2.2) := by decide +kernel
def f_X11_makesSheet_l53 (x4 : Int32) (z : Int32 × St) : Option ((Int32 × St) ⊕ (St)) :=
  if 100 ≤ z.1 then some (.inr z.2) else chk (inb ((21 + (100 * x4)) + z.1) 761) (some (.inl (z.1 + 1, up z.2 102 ((21 + (100 * x4)) + z.1).toNatClampNeg 1)))
set_option maxHeartbeats 4000000 in
set_option maxRecDepth 100000 in
theorem w_X11_makesSheet_l53 (X : Cx g RX11 cX11_makesSheet 6 (some .int) p s m args meth c) (x4 : Int32) (σ : St) {r : St} (KX0 : ∀ (v : St), r = v → ∀ (H : Heap) (locs : List Loc) (ls : Array Slot), Wd g s v H locs → lv_has ls 6 [(4, .int (x4))] → W p l e (rmm 0 0) s m args below meth c H locs 0 0 Q (F0 m 83 ls [])) : ∀ (n : Nat) (z : Int32 × St) {H : Heap} {locs : List Loc} {ls : Array Slot}, Wd g s z.2 H locs → lv_has ls 6 [(0, .ref (g.2.2 (101))), (4, .int (x4)), (5, .int (z.1))] → lp (f_X11_makesSheet_l53 x4) n z = some r → W p l e (rmm 0 0) s m args below meth c H locs 0 0 Q (F0 m 53 ls []) := by
  intro n
  induction n with
  | zero => intro z H locs ls Y hl h; cases h
  | succ n ih =>
    intro z H locs ls Y hl h
    obtain ⟨w, h, hw⟩ := lps h
    have KB : ∀ (v0_ : Int32) (v1_ : St), w = .inl (v0_, v1_) → ∀ (H : Heap) (locs : List Loc) (ls : Array Slot), Wd g s v1_ H locs → lv_has ls 6 [(0, .ref (g.2.2 (101))), (4, .int (x4)), (5, .int (v0_))] → W p l e (rmm 0 0) s m args below meth c H locs 0 0 Q (F0 m 53 ls []) := fun v0_ v1_ e H locs ls Y hl => ih (v0_, v1_) Y hl (lpl hw e)
    have KX0 := fun (v : St) (e : w = .inr v) => KX0 v (lpr hw e)
    unfold f_X11_makesSheet_l53 at h
    refine lv_iload X.1 X.2.1 (dk T_X11_makesSheet 36 rfl) (lv_at hl 2 rfl) ?_
    refine lv_bipush (v := 100) X.1 X.2.1 (dk T_X11_makesSheet 37 rfl) bp_100 ?_
    refine lv_icmp_ge (tgt := 83) X.1 X.2.1 (dk T_X11_makesSheet 38 rfl) rfl (fun c7 => ?_) (fun c7 => ?_)
    · replace h := ipos c7 h
      exact KX0 z.2 (Option.some.inj h).symm _ _ _ Y (lv_sub hl [1] rfl)
    · replace h := ineg c7 h
      refine lv_aload_n X.1 X.2.1 (dk T_X11_makesSheet 39 rfl) rfl (lv_at hl 0 rfl) ?_
      refine gg X Y fl_X11_7 rfl rfl (dk T_X11_makesSheet 40 rfl) ?_
      refine lv_bipush (v := 21) X.1 X.2.1 (dk T_X11_makesSheet 41 rfl) bp_21 ?_
      refine lv_bipush (v := 100) X.1 X.2.1 (dk T_X11_makesSheet 42 rfl) bp_100 ?_
      refine lv_iload X.1 X.2.1 (dk T_X11_makesSheet 43 rfl) (lv_at hl 1 rfl) ?_
      refine lv_imul X.1 X.2.1 (dk T_X11_makesSheet 44 rfl) ?_
      refine lv_iadd X.1 X.2.1 (dk T_X11_makesSheet 45 rfl) ?_
      refine lv_iload X.1 X.2.1 (dk T_X11_makesSheet 46 rfl) (lv_at hl 2 rfl) ?_
      refine lv_iadd X.1 X.2.1 (dk T_X11_makesSheet 47 rfl) ?_
      refine lv_iconst (v := 1) X.1 X.2.1 (dk T_X11_makesSheet 48 rfl) ic_1 ?_
      obtain ⟨g8, h⟩ := gd h
      refine gis X Y rfl (inp g8) (dk T_X11_makesSheet 49 rfl) (fun H locs Y => ?_)
      refine lv_iinc (v := z.1 + 1) (lv' := [(5, .int (z.1 + 1)), (0, .ref (g.2.2 (101))), (4, .int (x4))]) X.1 X.2.1 (dk T_X11_makesSheet 50 rfl) hl (k := 2) rfl (icx ic_1) (Nat.le_of_ble_eq_true rfl) rfl (fun ls hl => ?_)
      refine lv_goto (tgt := 53) X.1 X.2.1 (dk T_X11_makesSheet 51 rfl) rfl ?_
      exact KB (z.1 + 1) (up z.2 102 ((21 + (100 * x4)) + z.1).toNatClampNeg 1) (Option.some.inj h).symm _ _ _ Y (lv_sub hl [1, 2, 0] rfl)
def f_X11_makesSheet_0 (x1 : Int32) (x2 : Int32) (x3 : Int32) (σ : St) : Option (Int32 × St) :=
  chk (inb 0 761) (chk (inb 0 761) (chk (inb 0 761) (chk (inb (3 + (σ 102 (0 : Int32).toNatClampNeg)) 761) (chk (inb (9 + (σ 102 (0 : Int32).toNatClampNeg)) 761) (chk (inb (15 + (σ 102 (0 : Int32).toNatClampNeg)) 761) ((lp (f_X11_makesSheet_l53 (σ 102 (0 : Int32).toNatClampNeg)) FU (0, up (up (up (up σ 102 (0 : Int32).toNatClampNeg ((σ 102 (0 : Int32).toNatClampNeg) + 1)) 102 (3 + (σ 102 (0 : Int32).toNatClampNeg)).toNatClampNeg x1) 102 (9 + (σ 102 (0 : Int32).toNatClampNeg)).toNatClampNeg x2) 102 (15 + (σ 102 (0 : Int32).toNatClampNeg)).toNatClampNeg x3)).bind fun q9 => some (σ 102 (0 : Int32).toNatClampNeg, q9)))))))
set_option maxHeartbeats 4000000 in
set_option maxRecDepth 100000 in
theorem w_X11_makesSheet_0 (X : Cx g RX11 cX11_makesSheet 6 (some .int) p s m args meth c) (x1 : Int32) (x2 : Int32) (x3 : Int32) (σ : St) {w : Int32 × St} (KR : ∀ (H : Heap) (locs : List Loc) (ls : Array Slot) (pc : Nat), Wd g s w.2 H locs → decode cX11_makesSheet pc = .ok (.ireturn, 1) → W p l e (rmm 0 0) s m args below meth c H locs 0 0 Q (F0 m pc ls [.int (w.1)])) {H : Heap} {locs : List Loc} {ls : Array Slot} (Y : Wd g s σ H locs) (hl : lv_has ls 6 [(0, .ref (g.2.2 (101))), (1, .int (x1)), (2, .int (x2)), (3, .int (x3))]) (h : f_X11_makesSheet_0 x1 x2 x3 σ = some w) : W p l e (rmm 0 0) s m args below meth c H locs 0 0 Q (F0 m 0 ls []) := by
  unfold f_X11_makesSheet_0 at h
  refine lv_aload_n X.1 X.2.1 (dk T_X11_makesSheet 0 rfl) rfl (lv_at hl 0 rfl) ?_
  refine gg X Y fl_X11_7 rfl rfl (dk T_X11_makesSheet 1 rfl) ?_
  refine lv_iconst (v := 0) X.1 X.2.1 (dk T_X11_makesSheet 2 rfl) ic_0 ?_
  obtain ⟨g1, h⟩ := gd h
  refine gil X Y rfl (inp g1) (dk T_X11_makesSheet 3 rfl) ?_
  refine lv_istore (lv' := [(4, .int (σ 102 (0 : Int32).toNatClampNeg)), (0, .ref (g.2.2 (101))), (1, .int (x1)), (2, .int (x2)), (3, .int (x3))]) X.1 X.2.1 (dk T_X11_makesSheet 4 rfl) hl (Nat.le_of_ble_eq_true rfl) rfl (fun ls hl => ?_)
  refine lv_aload_n X.1 X.2.1 (dk T_X11_makesSheet 5 rfl) rfl (lv_at hl 1 rfl) ?_
  refine gg X Y fl_X11_7 rfl rfl (dk T_X11_makesSheet 6 rfl) ?_
  refine lv_iconst (v := 0) X.1 X.2.1 (dk T_X11_makesSheet 7 rfl) ic_0 ?_
  refine lv_dup2_11 X.1 X.2.1 (dk T_X11_makesSheet 8 rfl) rfl rfl ?_
  obtain ⟨g2, h⟩ := gd h
  refine gil X Y rfl (inp g2) (dk T_X11_makesSheet 9 rfl) ?_
  refine lv_iconst (v := 1) X.1 X.2.1 (dk T_X11_makesSheet 10 rfl) ic_1 ?_
  refine lv_iadd X.1 X.2.1 (dk T_X11_makesSheet 11 rfl) ?_
  obtain ⟨g3, h⟩ := gd h
  refine gis X Y rfl (inp g3) (dk T_X11_makesSheet 12 rfl) (fun H locs Y => ?_)
  refine lv_aload_n X.1 X.2.1 (dk T_X11_makesSheet 13 rfl) rfl (lv_at hl 1 rfl) ?_
  refine gg X Y fl_X11_7 rfl rfl (dk T_X11_makesSheet 14 rfl) ?_
  refine lv_iconst (v := 3) X.1 X.2.1 (dk T_X11_makesSheet 15 rfl) ic_3 ?_
  refine lv_iload X.1 X.2.1 (dk T_X11_makesSheet 16 rfl) (lv_at hl 0 rfl) ?_
  refine lv_iadd X.1 X.2.1 (dk T_X11_makesSheet 17 rfl) ?_
  refine lv_iload_n X.1 X.2.1 (dk T_X11_makesSheet 18 rfl) rfl (lv_at hl 2 rfl) ?_
  obtain ⟨g4, h⟩ := gd h
  refine gis X Y rfl (inp g4) (dk T_X11_makesSheet 19 rfl) (fun H locs Y => ?_)
  refine lv_aload_n X.1 X.2.1 (dk T_X11_makesSheet 20 rfl) rfl (lv_at hl 1 rfl) ?_
  refine gg X Y fl_X11_7 rfl rfl (dk T_X11_makesSheet 21 rfl) ?_
  refine lv_bipush (v := 9) X.1 X.2.1 (dk T_X11_makesSheet 22 rfl) bp_9 ?_
  refine lv_iload X.1 X.2.1 (dk T_X11_makesSheet 23 rfl) (lv_at hl 0 rfl) ?_
  refine lv_iadd X.1 X.2.1 (dk T_X11_makesSheet 24 rfl) ?_
  refine lv_iload_n X.1 X.2.1 (dk T_X11_makesSheet 25 rfl) rfl (lv_at hl 3 rfl) ?_
  obtain ⟨g5, h⟩ := gd h
  refine gis X Y rfl (inp g5) (dk T_X11_makesSheet 26 rfl) (fun H locs Y => ?_)
  refine lv_aload_n X.1 X.2.1 (dk T_X11_makesSheet 27 rfl) rfl (lv_at hl 1 rfl) ?_
  refine gg X Y fl_X11_7 rfl rfl (dk T_X11_makesSheet 28 rfl) ?_
  refine lv_bipush (v := 15) X.1 X.2.1 (dk T_X11_makesSheet 29 rfl) bp_15 ?_
  refine lv_iload X.1 X.2.1 (dk T_X11_makesSheet 30 rfl) (lv_at hl 0 rfl) ?_
  refine lv_iadd X.1 X.2.1 (dk T_X11_makesSheet 31 rfl) ?_
  refine lv_iload_n X.1 X.2.1 (dk T_X11_makesSheet 32 rfl) rfl (lv_at hl 4 rfl) ?_
  obtain ⟨g6, h⟩ := gd h
  refine gis X Y rfl (inp g6) (dk T_X11_makesSheet 33 rfl) (fun H locs Y => ?_)
  refine lv_iconst (v := 0) X.1 X.2.1 (dk T_X11_makesSheet 34 rfl) ic_0 ?_
  refine lv_istore (lv' := [(5, .int (0)), (4, .int (σ 102 (0 : Int32).toNatClampNeg)), (0, .ref (g.2.2 (101))), (1, .int (x1)), (2, .int (x2)), (3, .int (x3))]) X.1 X.2.1 (dk T_X11_makesSheet 35 rfl) hl (Nat.le_of_ble_eq_true rfl) rfl (fun ls hl => ?_)
  obtain ⟨q9, hq9, h⟩ := bs h
  refine w_X11_makesSheet_l53 X (σ 102 (0 : Int32).toNatClampNeg) σ (fun v e H locs ls Y hl => ?_) FU (0, up (up (up (up σ 102 (0 : Int32).toNatClampNeg ((σ 102 (0 : Int32).toNatClampNeg) + 1)) 102 (3 + (σ 102 (0 : Int32).toNatClampNeg)).toNatClampNeg x1) 102 (9 + (σ 102 (0 : Int32).toNatClampNeg)).toNatClampNeg x2) 102 (15 + (σ 102 (0 : Int32).toNatClampNeg)).toNatClampNeg x3) Y (lv_sub hl [2, 1, 0] rfl) hq9
  · obtain rfl := e
    refine lv_iload X.1 X.2.1 (dk T_X11_makesSheet 52 rfl) (lv_at hl 0 rfl) ?_
    obtain rfl := Option.some.inj h
    exact KR _ _ _ _ Y (dk T_X11_makesSheet 53 rfl)
def f_X11_makesSheet (x1 : Int32) (x2 : Int32) (x3 : Int32) (σ : St) : Option (Int32 × St) := f_X11_makesSheet_0 x1 x2 x3 σ
set_option maxHeartbeats 4000000 in
set_option maxRecDepth 100000 in
theorem c_X11_makesSheet {l : Launch} {g : Geo} (x1 : Int32) (x2 : Int32) (x3 : Int32) (σ : St) {w : Int32 × St} (h : f_X11_makesSheet x1 x2 x3 σ = some w) : CtI l yX11_makesSheet cX11_makesSheet 6 (some .int) (rmm 0 0) g [.ref (g.2.2 (101)), .int (x1), .int (x2), .int (x3)] σ w.1 w.2 := enI .int (by decide) rfl rfl (Nat.le_of_ble_eq_true rfl) (fun p e s m args below meth c Q X Y ls hl KR => w_X11_makesSheet_0 X x1 x2 x3 σ KR Y hl h)
def I_X11_addSheet : List (Nat × Instr × Nat) := [(0, .aload_n 0, 1), (1, .iconst 0, 1), (2, .putfield 71, 3), (5, .iload_n 1, 1), (6, .iload_n 2, 1), (7, .iload_n 3, 1), (8, .invokestatic 88, 3), (11, .ifCond .ne 9, 3), (14, .aload_n 0, 1), (15, .iconst 1, 1), (16, .invokevirtual 91, 3), (19, .ireturn, 1), (20, .aload_n 0, 1), (21, .getfield 7, 3), (24, .iconst 0, 1), (25, .iaload, 1), (26, .bipush 6, 2), (28, .if_icmp .ne 9, 3), (31, .aload_n 0, 1), (32, .iconst 2, 1), (33, .invokevirtual 91, 3), (36, .ireturn, 1), (37, .aload_n 0, 1), (38, .invokevirtual 95, 3), (41, .aload_n 0, 1), (42, .iload_n 1, 1), (43, .iload_n 2, 1), (44, .iload_n 3, 1), (45, .invokevirtual 98, 3), (48, .ireturn, 1)]
set_option maxRecDepth 100000 in
theorem T_X11_addSheet : ∀ q ∈ I_X11_addSheet, decode cX11_addSheet q.1 = .ok (q.2.1, q.2.2) := by decide +kernel
def f_X11_addSheet_0 (x1 : Int32) (x2 : Int32) (x3 : Int32) (σ : St) : Option (Int32 × St) :=
  (f_X11_isSheetForm x1 x2 x3).bind fun q1 => if q1 = 0 then (f_X11_fails 1 (up σ 101 0 0)).bind fun q8 => some (q8.1, q8.2) else chk (inb 0 761) (if ((up σ 101 0 0) 102 (0 : Int32).toNatClampNeg) = 6 then (f_X11_fails 2 (up σ 101 0 0)).bind fun q7 => some (q7.1, q7.2) else (f_X11_changes (up σ 101 0 0)).bind fun q5 => (f_X11_makesSheet x1 x2 x3 q5).bind fun q6 => some (q6.1, q6.2))
set_option maxHeartbeats 4000000 in
set_option maxRecDepth 100000 in
theorem w_X11_addSheet_0 (X : Cx g RX11 cX11_addSheet 4 (some .int) p s m args meth c) (x1 : Int32) (x2 : Int32) (x3 : Int32) (σ : St) {w : Int32 × St} (KR : ∀ (H : Heap) (locs : List Loc) (ls : Array Slot) (pc : Nat), Wd g s w.2 H locs → decode cX11_addSheet pc = .ok (.ireturn, 1) → W p l e (rmm 2 44) s m args below meth c H locs 0 0 Q (F0 m pc ls [.int (w.1)])) {H : Heap} {locs : List Loc} {ls : Array Slot} (Y : Wd g s σ H locs) (hl : lv_has ls 4 [(0, .ref (g.2.2 (101))), (1, .int (x1)), (2, .int (x2)), (3, .int (x3))]) (h : f_X11_addSheet_0 x1 x2 x3 σ = some w) : W p l e (rmm 2 44) s m args below meth c H locs 0 0 Q (F0 m 0 ls []) := by
  unfold f_X11_addSheet_0 at h
  refine lv_aload_n X.1 X.2.1 (dk T_X11_addSheet 0 rfl) rfl (lv_at hl 0 rfl) ?_
  refine lv_iconst (v := 0) X.1 X.2.1 (dk T_X11_addSheet 1 rfl) ic_0 ?_
  refine gp X Y fp_X11_71 rfl (nar_int _) (dk T_X11_addSheet 2 rfl) (fun H locs Y => ?_)
  refine lv_iload_n X.1 X.2.1 (dk T_X11_addSheet 3 rfl) rfl (lv_at hl 1 rfl) ?_
  refine lv_iload_n X.1 X.2.1 (dk T_X11_addSheet 4 rfl) rfl (lv_at hl 2 rfl) ?_
  refine lv_iload_n X.1 X.2.1 (dk T_X11_addSheet 5 rfl) rfl (lv_at hl 3 rfl) ?_
  obtain ⟨q1, hq1, h⟩ := bs h
  refine gsI (rest := []) X Y (c_X11_isSheetForm x1 x2 x3 (up σ 101 0 0) hq1) cb_X11_88 hl.1 rfl rfl (Nat.le_of_ble_eq_true rfl) ⟨Nat.le_of_ble_eq_true rfl, Nat.le_of_ble_eq_true rfl⟩ (dk T_X11_addSheet 6 rfl) (fun H locs Y => ?_)
  refine lv_if_ne (tgt := 20) X.1 X.2.1 (dk T_X11_addSheet 7 rfl) rfl (fun c2 => ?_) (fun c2 => ?_)
  · replace h := ineg c2 h
    refine lv_aload_n X.1 X.2.1 (dk T_X11_addSheet 12 rfl) rfl (lv_at hl 0 rfl) ?_
    refine gg X Y fl_X11_7 rfl rfl (dk T_X11_addSheet 13 rfl) ?_
    refine lv_iconst (v := 0) X.1 X.2.1 (dk T_X11_addSheet 14 rfl) ic_0 ?_
    obtain ⟨g3, h⟩ := gd h
    refine gil X Y rfl (inp g3) (dk T_X11_addSheet 15 rfl) ?_
    refine lv_bipush (v := 6) X.1 X.2.1 (dk T_X11_addSheet 16 rfl) bp_6 ?_
    refine lv_icmp_ne (tgt := 37) X.1 X.2.1 (dk T_X11_addSheet 17 rfl) rfl (fun c4 => ?_) (fun c4 => ?_)
    · replace h := ineg c4 h
      refine lv_aload_n X.1 X.2.1 (dk T_X11_addSheet 22 rfl) rfl (lv_at hl 0 rfl) ?_
      obtain ⟨q5, hq5, h⟩ := bs h
      refine gvV (rest := []) X Y (c_X11_changes (up σ 101 0 0) hq5) cb_X11_95 rfl hl.1 rfl rfl (Nat.le_of_ble_eq_true rfl) ⟨Nat.le_of_ble_eq_true rfl, Nat.le_of_ble_eq_true rfl⟩ (dk T_X11_addSheet 23 rfl) (fun H locs Y => ?_)
      refine lv_aload_n X.1 X.2.1 (dk T_X11_addSheet 24 rfl) rfl (lv_at hl 0 rfl) ?_
      refine lv_iload_n X.1 X.2.1 (dk T_X11_addSheet 25 rfl) rfl (lv_at hl 1 rfl) ?_
      refine lv_iload_n X.1 X.2.1 (dk T_X11_addSheet 26 rfl) rfl (lv_at hl 2 rfl) ?_
      refine lv_iload_n X.1 X.2.1 (dk T_X11_addSheet 27 rfl) rfl (lv_at hl 3 rfl) ?_
      obtain ⟨q6, hq6, h⟩ := bs h
      refine gvI (rest := []) X Y (c_X11_makesSheet x1 x2 x3 q5 hq6) cb_X11_98 rfl hl.1 rfl rfl (Nat.le_of_ble_eq_true rfl) ⟨Nat.le_of_ble_eq_true rfl, Nat.le_of_ble_eq_true rfl⟩ (dk T_X11_addSheet 28 rfl) (fun H locs Y => ?_)
      obtain rfl := Option.some.inj h
      exact KR _ _ _ _ Y (dk T_X11_addSheet 29 rfl)
    · replace h := ipos c4 h
      refine lv_aload_n X.1 X.2.1 (dk T_X11_addSheet 18 rfl) rfl (lv_at hl 0 rfl) ?_
      refine lv_iconst (v := 2) X.1 X.2.1 (dk T_X11_addSheet 19 rfl) ic_2 ?_
      obtain ⟨q7, hq7, h⟩ := bs h
      refine gvI (rest := []) X Y (c_X11_fails 2 (up σ 101 0 0) hq7) cb_X11_91 rfl hl.1 rfl rfl (Nat.le_of_ble_eq_true rfl) ⟨Nat.le_of_ble_eq_true rfl, Nat.le_of_ble_eq_true rfl⟩ (dk T_X11_addSheet 20 rfl) (fun H locs Y => ?_)
      obtain rfl := Option.some.inj h
      exact KR _ _ _ _ Y (dk T_X11_addSheet 21 rfl)
  · replace h := ipos c2 h
    refine lv_aload_n X.1 X.2.1 (dk T_X11_addSheet 8 rfl) rfl (lv_at hl 0 rfl) ?_
    refine lv_iconst (v := 1) X.1 X.2.1 (dk T_X11_addSheet 9 rfl) ic_1 ?_
    obtain ⟨q8, hq8, h⟩ := bs h
    refine gvI (rest := []) X Y (c_X11_fails 1 (up σ 101 0 0) hq8) cb_X11_91 rfl hl.1 rfl rfl (Nat.le_of_ble_eq_true rfl) ⟨Nat.le_of_ble_eq_true rfl, Nat.le_of_ble_eq_true rfl⟩ (dk T_X11_addSheet 10 rfl) (fun H locs Y => ?_)
    obtain rfl := Option.some.inj h
    exact KR _ _ _ _ Y (dk T_X11_addSheet 11 rfl)
def f_X11_addSheet (x1 : Int32) (x2 : Int32) (x3 : Int32) (σ : St) : Option (Int32 × St) := f_X11_addSheet_0 x1 x2 x3 σ
set_option maxHeartbeats 4000000 in
set_option maxRecDepth 100000 in
theorem c_X11_addSheet {l : Launch} {g : Geo} (x1 : Int32) (x2 : Int32) (x3 : Int32) (σ : St) {w : Int32 × St} (h : f_X11_addSheet x1 x2 x3 σ = some w) : CtI l yX11_addSheet cX11_addSheet 4 (some .int) (rmm 2 44) g [.ref (g.2.2 (101)), .int (x1), .int (x2), .int (x3)] σ w.1 w.2 := enI .int (by decide) rfl rfl (Nat.le_of_ble_eq_true rfl) (fun p e s m args below meth c Q X Y ls hl KR => w_X11_addSheet_0 X x1 x2 x3 σ KR Y hl h)
def I_X11_thrown : List (Nat × Instr × Nat) := [(0, .aload_n 0, 1), (1, .getfield 71, 3), (4, .ireturn, 1)]
set_option maxRecDepth 100000 in
theorem T_X11_thrown : ∀ q ∈ I_X11_thrown, decode cX11_thrown q.1 = .ok (q.2.1, q.2.2) := by decide +kernel
def f_X11_thrown_0 (σ : St) : Option (Int32) :=
  some (σ 101 0)
set_option maxHeartbeats 4000000 in
set_option maxRecDepth 100000 in
theorem w_X11_thrown_0 (X : Cx g RX11 cX11_thrown 1 (some .int) p s m args meth c) (σ : St) {w : Int32} (KR : ∀ (H : Heap) (locs : List Loc) (ls : Array Slot) (pc : Nat), Wd g s σ H locs → decode cX11_thrown pc = .ok (.ireturn, 1) → W p l e (rmm 0 0) s m args below meth c H locs 0 0 Q (F0 m pc ls [.int (w)])) {H : Heap} {locs : List Loc} {ls : Array Slot} (Y : Wd g s σ H locs) (hl : lv_has ls 1 [(0, .ref (g.2.2 (101)))]) (h : f_X11_thrown_0 σ = some w) : W p l e (rmm 0 0) s m args below meth c H locs 0 0 Q (F0 m 0 ls []) := by
  unfold f_X11_thrown_0 at h
  refine lv_aload_n X.1 X.2.1 (dk T_X11_thrown 0 rfl) rfl (lv_at hl 0 rfl) ?_
  refine gg X Y fl_X11_71 rfl rfl (dk T_X11_thrown 1 rfl) ?_
  obtain rfl := Option.some.inj h
  exact KR _ _ _ _ Y (dk T_X11_thrown 2 rfl)
def f_X11_thrown (σ : St) : Option (Int32) := f_X11_thrown_0 σ
set_option maxHeartbeats 4000000 in
set_option maxRecDepth 100000 in
theorem c_X11_thrown {l : Launch} {g : Geo} (σ : St) {w : Int32} (h : f_X11_thrown σ = some w) : CtI l yX11_thrown cX11_thrown 1 (some .int) (rmm 0 0) g [.ref (g.2.2 (101))] σ w σ := enI .int (by decide) rfl rfl (Nat.le_of_ble_eq_true rfl) (fun p e s m args below meth c Q X Y ls hl KR => w_X11_thrown_0 X σ KR Y hl h)
def I_X11_at : List (Nat × Instr × Nat) := [(0, .iload_n 0, 1), (1, .iload_n 2, 1), (2, .imul, 1), (3, .iload_n 1, 1), (4, .iadd, 1), (5, .ireturn, 1)]
set_option maxRecDepth 100000 in
theorem T_X11_at : ∀ q ∈ I_X11_at, decode cX11_at q.1 = .ok (q.2.1, q.2.2) := by decide +kernel
def f_X11_at_0 (x0 : Int32) (x1 : Int32) (x2 : Int32) : Option (Int32) :=
  some ((x0 * x2) + x1)
set_option maxHeartbeats 4000000 in
set_option maxRecDepth 100000 in
theorem w_X11_at_0 (X : Cx g RX11 cX11_at 3 (some .int) p s m args meth c) (x0 : Int32) (x1 : Int32) (x2 : Int32) (σ : St) {w : Int32} (KR : ∀ (H : Heap) (locs : List Loc) (ls : Array Slot) (pc : Nat), Wd g s σ H locs → decode cX11_at pc = .ok (.ireturn, 1) → W p l e (rmm 0 0) s m args below meth c H locs 0 0 Q (F0 m pc ls [.int (w)])) {H : Heap} {locs : List Loc} {ls : Array Slot} (Y : Wd g s σ H locs) (hl : lv_has ls 3 [(0, .int (x0)), (1, .int (x1)), (2, .int (x2))]) (h : f_X11_at_0 x0 x1 x2 = some w) : W p l e (rmm 0 0) s m args below meth c H locs 0 0 Q (F0 m 0 ls []) := by
  unfold f_X11_at_0 at h
  refine lv_iload_n X.1 X.2.1 (dk T_X11_at 0 rfl) rfl (lv_at hl 0 rfl) ?_
  refine lv_iload_n X.1 X.2.1 (dk T_X11_at 1 rfl) rfl (lv_at hl 2 rfl) ?_
  refine lv_imul X.1 X.2.1 (dk T_X11_at 2 rfl) ?_
  refine lv_iload_n X.1 X.2.1 (dk T_X11_at 3 rfl) rfl (lv_at hl 1 rfl) ?_
  refine lv_iadd X.1 X.2.1 (dk T_X11_at 4 rfl) ?_
  obtain rfl := Option.some.inj h
  exact KR _ _ _ _ Y (dk T_X11_at 5 rfl)
def f_X11_at (x0 : Int32) (x1 : Int32) (x2 : Int32) : Option (Int32) := f_X11_at_0 x0 x1 x2
set_option maxHeartbeats 4000000 in
set_option maxRecDepth 100000 in
theorem c_X11_at {l : Launch} {g : Geo} (x0 : Int32) (x1 : Int32) (x2 : Int32) (σ : St) {w : Int32} (h : f_X11_at x0 x1 x2 = some w) : CtI l yX11_at cX11_at 3 (some .int) (rmm 0 0) g [.int (x0), .int (x1), .int (x2)] σ w σ := enI .int (by decide) rfl rfl (Nat.le_of_ble_eq_true rfl) (fun p e s m args below meth c Q X Y ls hl KR => w_X11_at_0 X x0 x1 x2 σ KR Y hl h)
def I_X11_has : List (Nat × Instr × Nat) := [(0, .iload_n 0, 1), (1, .iload_n 1, 1), (2, .ishr, 1), (3, .iconst 1, 1), (4, .iand, 1), (5, .iconst 1, 1), (6, .if_icmp .ne 7, 3), (9, .iconst 1, 1), (10, .goto 4, 3), (13, .iconst 0, 1), (14, .ireturn, 1)]
set_option maxRecDepth 100000 in
theorem T_X11_has : ∀ q ∈ I_X11_has, decode cX11_has q.1 = .ok (q.2.1, q.2.2) := by decide +kernel
def f_X11_has_0 (x0 : Int32) (x1 : Int32) : Option (Int32) :=
  if ((x0 >>> (x1 &&& 31)) &&& 1) = 1 then some 1 else some 0
set_option maxHeartbeats 4000000 in
set_option maxRecDepth 100000 in
theorem w_X11_has_0 (X : Cx g RX11 cX11_has 2 (some .boolean) p s m args meth c) (x0 : Int32) (x1 : Int32) (σ : St) {w : Int32} (KR : ∀ (H : Heap) (locs : List Loc) (ls : Array Slot) (pc : Nat), Wd g s σ H locs → decode cX11_has pc = .ok (.ireturn, 1) → W p l e (rmm 0 0) s m args below meth c H locs 0 0 Q (F0 m pc ls [.int (w)])) {H : Heap} {locs : List Loc} {ls : Array Slot} (Y : Wd g s σ H locs) (hl : lv_has ls 2 [(0, .int (x0)), (1, .int (x1))]) (h : f_X11_has_0 x0 x1 = some w) : W p l e (rmm 0 0) s m args below meth c H locs 0 0 Q (F0 m 0 ls []) := by
  unfold f_X11_has_0 at h
  refine lv_iload_n X.1 X.2.1 (dk T_X11_has 0 rfl) rfl (lv_at hl 0 rfl) ?_
  refine lv_iload_n X.1 X.2.1 (dk T_X11_has 1 rfl) rfl (lv_at hl 1 rfl) ?_
  refine lv_ishr X.1 X.2.1 (dk T_X11_has 2 rfl) ?_
  refine lv_iconst (v := 1) X.1 X.2.1 (dk T_X11_has 3 rfl) ic_1 ?_
  refine lv_iand X.1 X.2.1 (dk T_X11_has 4 rfl) ?_
  refine lv_iconst (v := 1) X.1 X.2.1 (dk T_X11_has 5 rfl) ic_1 ?_
  refine lv_icmp_ne (tgt := 13) X.1 X.2.1 (dk T_X11_has 6 rfl) rfl (fun c1 => ?_) (fun c1 => ?_)
  · replace h := ineg c1 h
    refine lv_iconst (v := 0) X.1 X.2.1 (dk T_X11_has 9 rfl) ic_0 ?_
    obtain rfl := Option.some.inj h
    exact KR _ _ _ _ Y (dk T_X11_has 10 rfl)
  · replace h := ipos c1 h
    refine lv_iconst (v := 1) X.1 X.2.1 (dk T_X11_has 7 rfl) ic_1 ?_
    refine lv_goto (tgt := 14) X.1 X.2.1 (dk T_X11_has 8 rfl) rfl ?_
    obtain rfl := Option.some.inj h
    exact KR _ _ _ _ Y (dk T_X11_has 10 rfl)
def f_X11_has (x0 : Int32) (x1 : Int32) : Option (Int32) := bz (f_X11_has_0 x0 x1)
set_option maxHeartbeats 4000000 in
set_option maxRecDepth 100000 in
theorem c_X11_has {l : Launch} {g : Geo} (x0 : Int32) (x1 : Int32) (σ : St) {w : Int32} (h : f_X11_has x0 x1 = some w) : CtI l yX11_has cX11_has 2 (some .boolean) (rmm 0 0) g [.int (x0), .int (x1)] σ w σ := by
  obtain ⟨h, hz⟩ := bz_s h
  exact enI .boolean (by decide) rfl (bz_n hz) (Nat.le_of_ble_eq_true rfl) (fun p e s m args below meth c Q X Y ls hl KR => w_X11_has_0 X x0 x1 σ KR Y hl h)
def I_X11_isFull : List (Nat × Instr × Nat) := [(0, .iconst 1, 1), (1, .istore_n 3, 1), (2, .iconst 0, 1), (3, .istore 4, 2), (5, .iload 4, 2), (7, .iload_n 1, 1), (8, .if_icmp .ge 69, 3), (11, .iconst 0, 1), (12, .istore 5, 2), (14, .iconst 0, 1), (15, .istore 6, 2), (17, .iload 6, 2), (19, .iload_n 0, 1), (20, .if_icmp .ge 36, 3), (23, .iload 5, 2), (25, .ifCond .ne 18, 3), (28, .iload_n 2, 1), (29, .iload_n 0, 1), (30, .iload 6, 2), (32, .iload 4, 2), (34, .invokestatic 102, 3), (37, .invokestatic 105, 3), (40, .ifCond .eq 7, 3), (43, .iconst 1, 1), (44, .goto 4, 3), (47, .iconst 0, 1), (48, .istore 5, 2), (50, .iinc 6 1, 3), (53, .goto (-36), 3), (56, .iload_n 3, 1), (57, .ifCond .eq 12, 3), (60, .iload 5, 2), (62, .ifCond .eq 7, 3), (65, .iconst 1, 1), (66, .goto 4, 3), (69, .iconst 0, 1), (70, .istore_n 3, 1), (71, .iinc 4 1, 3), (74, .goto (-69), 3), (77, .iconst 0, 1), (78, .istore 4, 2), (80, .iload 4, 2), (82, .iload_n 0, 1), (83, .if_icmp .ge 69, 3), (86, .iconst 0, 1), (87, .istore 5, 2), (89, .iconst 0, 1), (90, .istore 6, 2), (92, .iload 6, 2), (94, .iload_n 1, 1), (95, .if_icmp .ge 36, 3), (98, .iload 5, 2), (100, .ifCond .ne 18, 3), (103, .iload_n 2, 1), (104, .iload_n 0, 1), (105, .iload 4, 2), (107, .iload 6, 2), (109, .invokestatic 102, 3), (112, .invokestatic 105, 3), (115, .ifCond .eq 7, 3), (118, .iconst 1, 1), (119, .goto 4, 3), (122, .iconst 0, 1), (123, .istore 5, 2), (125, .iinc 6 1, 3), (128, .goto (-36), 3), (131, .iload_n 3, 1), (132, .ifCond .eq 12, 3), (135, .iload 5, 2), (137, .ifCond .eq 7, 3), (140, .iconst 1, 1), (141, .goto 4, 3), (144, .iconst 0, 1), (145, .istore_n 3, 1), (146, .iinc 4 1, 3), (149, .goto (-69), 3), (152, .iload_n 3, 1), (153, .ireturn, 1)]
set_option maxRecDepth 100000 in
theorem T_X11_isFull : ∀ q ∈ I_X11_isFull, decode cX11_isFull q.1 = .ok (q.2.1, q.2.2) := by decide +kernel
def f_X11_isFull_j48 (x0 : Int32) (x1 : Int32) (x2 : Int32) (x3 : Int32) (x4 : Int32) (x6 : Int32) (s0 : Int32) : Option ((Int32 × Int32) ⊕ (Int32)) :=
  some (.inl (s0, x6 + 1))
set_option maxHeartbeats 4000000 in
set_option maxRecDepth 100000 in
theorem w_X11_isFull_j48 (X : Cx g RX11 cX11_isFull 7 (some .boolean) p s m args meth c) (x0 : Int32) (x1 : Int32) (x2 : Int32) (x3 : Int32) (x4 : Int32) (x6 : Int32) (s0 : Int32) (σ : St) {w : (Int32 × Int32) ⊕ (Int32)} (KB : ∀ (v0_ : Int32) (v1_ : Int32), w = .inl (v0_, v1_) → ∀ (H : Heap) (locs : List Loc) (ls : Array Slot), Wd g s σ H locs → lv_has ls 7 [(0, .int (x0)), (1, .int (x1)), (2, .int (x2)), (3, .int (x3)), (4, .int (x4)), (5, .int (v0_)), (6, .int (v1_))] → W p l e (rmm 1 22) s m args below meth c H locs 0 0 Q (F0 m 17 ls [])) (KX0 : ∀ (v : Int32), w = .inr v → ∀ (H : Heap) (locs : List Loc) (ls : Array Slot), Wd g s σ H locs → lv_has ls 7 [(0, .int (x0)), (1, .int (x1)), (2, .int (x2)), (3, .int (x3)), (4, .int (x4)), (5, .int (v))] → W p l e (rmm 1 22) s m args below meth c H locs 0 0 Q (F0 m 56 ls [])) {H : Heap} {locs : List Loc} {ls : Array Slot} (Y : Wd g s σ H locs) (hl : lv_has ls 7 [(0, .int (x0)), (1, .int (x1)), (2, .int (x2)), (3, .int (x3)), (4, .int (x4)), (6, .int (x6))]) (h : f_X11_isFull_j48 x0 x1 x2 x3 x4 x6 s0 = some w) : W p l e (rmm 1 22) s m args below meth c H locs 0 0 Q (F0 m 48 ls [.int (s0)]) := by
  unfold f_X11_isFull_j48 at h
  refine lv_istore (lv' := [(5, .int (s0)), (0, .int (x0)), (1, .int (x1)), (2, .int (x2)), (3, .int (x3)), (4, .int (x4)), (6, .int (x6))]) X.1 X.2.1 (dk T_X11_isFull 26 rfl) hl (Nat.le_of_ble_eq_true rfl) rfl (fun ls hl => ?_)
  refine lv_iinc (v := x6 + 1) (lv' := [(6, .int (x6 + 1)), (5, .int (s0)), (0, .int (x0)), (1, .int (x1)), (2, .int (x2)), (3, .int (x3)), (4, .int (x4))]) X.1 X.2.1 (dk T_X11_isFull 27 rfl) hl (k := 6) rfl (icx ic_1) (Nat.le_of_ble_eq_true rfl) rfl (fun ls hl => ?_)
  refine lv_goto (tgt := 17) X.1 X.2.1 (dk T_X11_isFull 28 rfl) rfl ?_
  exact KB s0 (x6 + 1) (Option.some.inj h).symm _ _ _ Y (lv_sub hl [2, 3, 4, 5, 6, 1, 0] rfl)
def f_X11_isFull_j43 (x0 : Int32) (x1 : Int32) (x2 : Int32) (x3 : Int32) (x4 : Int32) (x6 : Int32) : Option ((Int32 × Int32) ⊕ (Int32)) :=
  f_X11_isFull_j48 x0 x1 x2 x3 x4 x6 1
set_option maxHeartbeats 4000000 in
set_option maxRecDepth 100000 in
theorem w_X11_isFull_j43 (X : Cx g RX11 cX11_isFull 7 (some .boolean) p s m args meth c) (x0 : Int32) (x1 : Int32) (x2 : Int32) (x3 : Int32) (x4 : Int32) (x6 : Int32) (σ : St) {w : (Int32 × Int32) ⊕ (Int32)} (KB : ∀ (v0_ : Int32) (v1_ : Int32), w = .inl (v0_, v1_) → ∀ (H : Heap) (locs : List Loc) (ls : Array Slot), Wd g s σ H locs → lv_has ls 7 [(0, .int (x0)), (1, .int (x1)), (2, .int (x2)), (3, .int (x3)), (4, .int (x4)), (5, .int (v0_)), (6, .int (v1_))] → W p l e (rmm 1 22) s m args below meth c H locs 0 0 Q (F0 m 17 ls [])) (KX0 : ∀ (v : Int32), w = .inr v → ∀ (H : Heap) (locs : List Loc) (ls : Array Slot), Wd g s σ H locs → lv_has ls 7 [(0, .int (x0)), (1, .int (x1)), (2, .int (x2)), (3, .int (x3)), (4, .int (x4)), (5, .int (v))] → W p l e (rmm 1 22) s m args below meth c H locs 0 0 Q (F0 m 56 ls [])) {H : Heap} {locs : List Loc} {ls : Array Slot} (Y : Wd g s σ H locs) (hl : lv_has ls 7 [(0, .int (x0)), (1, .int (x1)), (2, .int (x2)), (3, .int (x3)), (4, .int (x4)), (6, .int (x6))]) (h : f_X11_isFull_j43 x0 x1 x2 x3 x4 x6 = some w) : W p l e (rmm 1 22) s m args below meth c H locs 0 0 Q (F0 m 43 ls []) := by
  unfold f_X11_isFull_j43 at h
  refine lv_iconst (v := 1) X.1 X.2.1 (dk T_X11_isFull 23 rfl) ic_1 ?_
  refine lv_goto (tgt := 48) X.1 X.2.1 (dk T_X11_isFull 24 rfl) rfl ?_
  exact w_X11_isFull_j48 X x0 x1 x2 x3 x4 x6 1 σ KB KX0 Y (lv_sub hl [0, 1, 2, 3, 4, 5] rfl) h
def f_X11_isFull_l17 (x0 : Int32) (x1 : Int32) (x2 : Int32) (x3 : Int32) (x4 : Int32) (z : Int32 × Int32) : Option ((Int32 × Int32) ⊕ (Int32)) :=
  if x0 ≤ z.2 then some (.inr z.1) else if z.1 = 0 then (f_X11_at x0 z.2 x4).bind fun q4 => (f_X11_has x2 q4).bind fun q5 => if q5 = 0 then f_X11_isFull_j48 x0 x1 x2 x3 x4 z.2 0 else f_X11_isFull_j43 x0 x1 x2 x3 x4 z.2 else f_X11_isFull_j43 x0 x1 x2 x3 x4 z.2
set_option maxHeartbeats 4000000 in
set_option maxRecDepth 100000 in
theorem w_X11_isFull_l17 (X : Cx g RX11 cX11_isFull 7 (some .boolean) p s m args meth c) (x0 : Int32) (x1 : Int32) (x2 : Int32) (x3 : Int32) (x4 : Int32) (σ : St) {r : Int32} (KX0 : ∀ (v : Int32), r = v → ∀ (H : Heap) (locs : List Loc) (ls : Array Slot), Wd g s σ H locs → lv_has ls 7 [(0, .int (x0)), (1, .int (x1)), (2, .int (x2)), (3, .int (x3)), (4, .int (x4)), (5, .int (v))] → W p l e (rmm 1 22) s m args below meth c H locs 0 0 Q (F0 m 56 ls [])) : ∀ (n : Nat) (z : Int32 × Int32) {H : Heap} {locs : List Loc} {ls : Array Slot}, Wd g s σ H locs → lv_has ls 7 [(0, .int (x0)), (1, .int (x1)), (2, .int (x2)), (3, .int (x3)), (4, .int (x4)), (5, .int (z.1)), (6, .int (z.2))] → lp (f_X11_isFull_l17 x0 x1 x2 x3 x4) n z = some r → W p l e (rmm 1 22) s m args below meth c H locs 0 0 Q (F0 m 17 ls []) := by
  intro n
  induction n with
  | zero => intro z H locs ls Y hl h; cases h
  | succ n ih =>
    intro z H locs ls Y hl h
    obtain ⟨w, h, hw⟩ := lps h
    have KB : ∀ (v0_ : Int32) (v1_ : Int32), w = .inl (v0_, v1_) → ∀ (H : Heap) (locs : List Loc) (ls : Array Slot), Wd g s σ H locs → lv_has ls 7 [(0, .int (x0)), (1, .int (x1)), (2, .int (x2)), (3, .int (x3)), (4, .int (x4)), (5, .int (v0_)), (6, .int (v1_))] → W p l e (rmm 1 22) s m args below meth c H locs 0 0 Q (F0 m 17 ls []) := fun v0_ v1_ e H locs ls Y hl => ih (v0_, v1_) Y hl (lpl hw e)
    have KX0 := fun (v : Int32) (e : w = .inr v) => KX0 v (lpr hw e)
    unfold f_X11_isFull_l17 at h
    refine lv_iload X.1 X.2.1 (dk T_X11_isFull 11 rfl) (lv_at hl 6 rfl) ?_
    refine lv_iload_n X.1 X.2.1 (dk T_X11_isFull 12 rfl) rfl (lv_at hl 0 rfl) ?_
    refine lv_icmp_ge (tgt := 56) X.1 X.2.1 (dk T_X11_isFull 13 rfl) rfl (fun c2 => ?_) (fun c2 => ?_)
    · replace h := ipos c2 h
      exact KX0 z.1 (Option.some.inj h).symm _ _ _ Y (lv_sub hl [0, 1, 2, 3, 4, 5] rfl)
    · replace h := ineg c2 h
      refine lv_iload X.1 X.2.1 (dk T_X11_isFull 14 rfl) (lv_at hl 5 rfl) ?_
      refine lv_if_ne (tgt := 43) X.1 X.2.1 (dk T_X11_isFull 15 rfl) rfl (fun c3 => ?_) (fun c3 => ?_)
      · replace h := ineg c3 h
        exact w_X11_isFull_j43 X x0 x1 x2 x3 x4 z.2 σ KB KX0 Y (lv_sub hl [0, 1, 2, 3, 4, 6] rfl) h
      · replace h := ipos c3 h
        refine lv_iload_n X.1 X.2.1 (dk T_X11_isFull 16 rfl) rfl (lv_at hl 2 rfl) ?_
        refine lv_iload_n X.1 X.2.1 (dk T_X11_isFull 17 rfl) rfl (lv_at hl 0 rfl) ?_
        refine lv_iload X.1 X.2.1 (dk T_X11_isFull 18 rfl) (lv_at hl 6 rfl) ?_
        refine lv_iload X.1 X.2.1 (dk T_X11_isFull 19 rfl) (lv_at hl 4 rfl) ?_
        obtain ⟨q4, hq4, h⟩ := bs h
        refine gsI (rest := [.int (x2)]) X Y (c_X11_at x0 z.2 x4 σ hq4) cb_X11_102 hl.1 rfl rfl (Nat.le_of_ble_eq_true rfl) ⟨Nat.le_of_ble_eq_true rfl, Nat.le_of_ble_eq_true rfl⟩ (dk T_X11_isFull 20 rfl) (fun H locs Y => ?_)
        obtain ⟨q5, hq5, h⟩ := bs h
        refine gsI (rest := []) X Y (c_X11_has x2 q4 σ hq5) cb_X11_105 hl.1 rfl rfl (Nat.le_of_ble_eq_true rfl) ⟨Nat.le_of_ble_eq_true rfl, Nat.le_of_ble_eq_true rfl⟩ (dk T_X11_isFull 21 rfl) (fun H locs Y => ?_)
        refine lv_if_eq (tgt := 47) X.1 X.2.1 (dk T_X11_isFull 22 rfl) rfl (fun c6 => ?_) (fun c6 => ?_)
        · replace h := ipos c6 h
          refine lv_iconst (v := 0) X.1 X.2.1 (dk T_X11_isFull 25 rfl) ic_0 ?_
          exact w_X11_isFull_j48 X x0 x1 x2 x3 x4 z.2 0 σ KB KX0 Y (lv_sub hl [0, 1, 2, 3, 4, 6] rfl) h
        · replace h := ineg c6 h
          exact w_X11_isFull_j43 X x0 x1 x2 x3 x4 z.2 σ KB KX0 Y (lv_sub hl [0, 1, 2, 3, 4, 6] rfl) h
def f_X11_isFull_j70 (x0 : Int32) (x1 : Int32) (x2 : Int32) (x4 : Int32) (s0 : Int32) : Option ((Int32 × Int32) ⊕ (Int32)) :=
  some (.inl (s0, x4 + 1))
set_option maxHeartbeats 4000000 in
set_option maxRecDepth 100000 in
theorem w_X11_isFull_j70 (X : Cx g RX11 cX11_isFull 7 (some .boolean) p s m args meth c) (x0 : Int32) (x1 : Int32) (x2 : Int32) (x4 : Int32) (s0 : Int32) (σ : St) {w : (Int32 × Int32) ⊕ (Int32)} (KB : ∀ (v0_ : Int32) (v1_ : Int32), w = .inl (v0_, v1_) → ∀ (H : Heap) (locs : List Loc) (ls : Array Slot), Wd g s σ H locs → lv_has ls 7 [(0, .int (x0)), (1, .int (x1)), (2, .int (x2)), (3, .int (v0_)), (4, .int (v1_))] → W p l e (rmm 1 22) s m args below meth c H locs 0 0 Q (F0 m 5 ls [])) (KX0 : ∀ (v : Int32), w = .inr v → ∀ (H : Heap) (locs : List Loc) (ls : Array Slot), Wd g s σ H locs → lv_has ls 7 [(0, .int (x0)), (1, .int (x1)), (2, .int (x2)), (3, .int (v))] → W p l e (rmm 1 22) s m args below meth c H locs 0 0 Q (F0 m 77 ls [])) {H : Heap} {locs : List Loc} {ls : Array Slot} (Y : Wd g s σ H locs) (hl : lv_has ls 7 [(0, .int (x0)), (1, .int (x1)), (2, .int (x2)), (4, .int (x4))]) (h : f_X11_isFull_j70 x0 x1 x2 x4 s0 = some w) : W p l e (rmm 1 22) s m args below meth c H locs 0 0 Q (F0 m 70 ls [.int (s0)]) := by
  unfold f_X11_isFull_j70 at h
  refine lv_istore_n (lv' := [(3, .int (s0)), (0, .int (x0)), (1, .int (x1)), (2, .int (x2)), (4, .int (x4))]) X.1 X.2.1 (dk T_X11_isFull 36 rfl) rfl hl (Nat.le_of_ble_eq_true rfl) rfl (fun ls hl => ?_)
  refine lv_iinc (v := x4 + 1) (lv' := [(4, .int (x4 + 1)), (3, .int (s0)), (0, .int (x0)), (1, .int (x1)), (2, .int (x2))]) X.1 X.2.1 (dk T_X11_isFull 37 rfl) hl (k := 4) rfl (icx ic_1) (Nat.le_of_ble_eq_true rfl) rfl (fun ls hl => ?_)
  refine lv_goto (tgt := 5) X.1 X.2.1 (dk T_X11_isFull 38 rfl) rfl ?_
  exact KB s0 (x4 + 1) (Option.some.inj h).symm _ _ _ Y (lv_sub hl [2, 3, 4, 1, 0] rfl)
def f_X11_isFull_j69 (x0 : Int32) (x1 : Int32) (x2 : Int32) (x4 : Int32) : Option ((Int32 × Int32) ⊕ (Int32)) :=
  f_X11_isFull_j70 x0 x1 x2 x4 0
set_option maxHeartbeats 4000000 in
set_option maxRecDepth 100000 in
theorem w_X11_isFull_j69 (X : Cx g RX11 cX11_isFull 7 (some .boolean) p s m args meth c) (x0 : Int32) (x1 : Int32) (x2 : Int32) (x4 : Int32) (σ : St) {w : (Int32 × Int32) ⊕ (Int32)} (KB : ∀ (v0_ : Int32) (v1_ : Int32), w = .inl (v0_, v1_) → ∀ (H : Heap) (locs : List Loc) (ls : Array Slot), Wd g s σ H locs → lv_has ls 7 [(0, .int (x0)), (1, .int (x1)), (2, .int (x2)), (3, .int (v0_)), (4, .int (v1_))] → W p l e (rmm 1 22) s m args below meth c H locs 0 0 Q (F0 m 5 ls [])) (KX0 : ∀ (v : Int32), w = .inr v → ∀ (H : Heap) (locs : List Loc) (ls : Array Slot), Wd g s σ H locs → lv_has ls 7 [(0, .int (x0)), (1, .int (x1)), (2, .int (x2)), (3, .int (v))] → W p l e (rmm 1 22) s m args below meth c H locs 0 0 Q (F0 m 77 ls [])) {H : Heap} {locs : List Loc} {ls : Array Slot} (Y : Wd g s σ H locs) (hl : lv_has ls 7 [(0, .int (x0)), (1, .int (x1)), (2, .int (x2)), (4, .int (x4))]) (h : f_X11_isFull_j69 x0 x1 x2 x4 = some w) : W p l e (rmm 1 22) s m args below meth c H locs 0 0 Q (F0 m 69 ls []) := by
  unfold f_X11_isFull_j69 at h
  refine lv_iconst (v := 0) X.1 X.2.1 (dk T_X11_isFull 35 rfl) ic_0 ?_
  exact w_X11_isFull_j70 X x0 x1 x2 x4 0 σ KB KX0 Y (lv_sub hl [0, 1, 2, 3] rfl) h
def f_X11_isFull_l5 (x0 : Int32) (x1 : Int32) (x2 : Int32) (z : Int32 × Int32) : Option ((Int32 × Int32) ⊕ (Int32)) :=
  if x1 ≤ z.2 then some (.inr z.1) else (lp (f_X11_isFull_l17 x0 x1 x2 z.1 z.2) FU (0, 0)).bind fun q7 => if z.1 = 0 then f_X11_isFull_j69 x0 x1 x2 z.2 else if q7 = 0 then f_X11_isFull_j69 x0 x1 x2 z.2 else f_X11_isFull_j70 x0 x1 x2 z.2 1
set_option maxHeartbeats 4000000 in
set_option maxRecDepth 100000 in
theorem w_X11_isFull_l5 (X : Cx g RX11 cX11_isFull 7 (some .boolean) p s m args meth c) (x0 : Int32) (x1 : Int32) (x2 : Int32) (σ : St) {r : Int32} (KX0 : ∀ (v : Int32), r = v → ∀ (H : Heap) (locs : List Loc) (ls : Array Slot), Wd g s σ H locs → lv_has ls 7 [(0, .int (x0)), (1, .int (x1)), (2, .int (x2)), (3, .int (v))] → W p l e (rmm 1 22) s m args below meth c H locs 0 0 Q (F0 m 77 ls [])) : ∀ (n : Nat) (z : Int32 × Int32) {H : Heap} {locs : List Loc} {ls : Array Slot}, Wd g s σ H locs → lv_has ls 7 [(0, .int (x0)), (1, .int (x1)), (2, .int (x2)), (3, .int (z.1)), (4, .int (z.2))] → lp (f_X11_isFull_l5 x0 x1 x2) n z = some r → W p l e (rmm 1 22) s m args below meth c H locs 0 0 Q (F0 m 5 ls []) := by
  intro n
  induction n with
  | zero => intro z H locs ls Y hl h; cases h
  | succ n ih =>
    intro z H locs ls Y hl h
    obtain ⟨w, h, hw⟩ := lps h
    have KB : ∀ (v0_ : Int32) (v1_ : Int32), w = .inl (v0_, v1_) → ∀ (H : Heap) (locs : List Loc) (ls : Array Slot), Wd g s σ H locs → lv_has ls 7 [(0, .int (x0)), (1, .int (x1)), (2, .int (x2)), (3, .int (v0_)), (4, .int (v1_))] → W p l e (rmm 1 22) s m args below meth c H locs 0 0 Q (F0 m 5 ls []) := fun v0_ v1_ e H locs ls Y hl => ih (v0_, v1_) Y hl (lpl hw e)
    have KX0 := fun (v : Int32) (e : w = .inr v) => KX0 v (lpr hw e)
    unfold f_X11_isFull_l5 at h
    refine lv_iload X.1 X.2.1 (dk T_X11_isFull 4 rfl) (lv_at hl 4 rfl) ?_
    refine lv_iload_n X.1 X.2.1 (dk T_X11_isFull 5 rfl) rfl (lv_at hl 1 rfl) ?_
    refine lv_icmp_ge (tgt := 77) X.1 X.2.1 (dk T_X11_isFull 6 rfl) rfl (fun c1 => ?_) (fun c1 => ?_)
    · replace h := ipos c1 h
      exact KX0 z.1 (Option.some.inj h).symm _ _ _ Y (lv_sub hl [0, 1, 2, 3] rfl)
    · replace h := ineg c1 h
      refine lv_iconst (v := 0) X.1 X.2.1 (dk T_X11_isFull 7 rfl) ic_0 ?_
      refine lv_istore (lv' := [(5, .int (0)), (0, .int (x0)), (1, .int (x1)), (2, .int (x2)), (3, .int (z.1)), (4, .int (z.2))]) X.1 X.2.1 (dk T_X11_isFull 8 rfl) hl (Nat.le_of_ble_eq_true rfl) rfl (fun ls hl => ?_)
      refine lv_iconst (v := 0) X.1 X.2.1 (dk T_X11_isFull 9 rfl) ic_0 ?_
      refine lv_istore (lv' := [(6, .int (0)), (5, .int (0)), (0, .int (x0)), (1, .int (x1)), (2, .int (x2)), (3, .int (z.1)), (4, .int (z.2))]) X.1 X.2.1 (dk T_X11_isFull 10 rfl) hl (Nat.le_of_ble_eq_true rfl) rfl (fun ls hl => ?_)
      obtain ⟨q7, hq7, h⟩ := bs h
      refine w_X11_isFull_l17 X x0 x1 x2 z.1 z.2 σ (fun v e H locs ls Y hl => ?_) FU (0, 0) Y (lv_sub hl [2, 3, 4, 5, 6, 1, 0] rfl) hq7
      · obtain rfl := e
        refine lv_iload_n X.1 X.2.1 (dk T_X11_isFull 29 rfl) rfl (lv_at hl 3 rfl) ?_
        refine lv_if_eq (tgt := 69) X.1 X.2.1 (dk T_X11_isFull 30 rfl) rfl (fun c8 => ?_) (fun c8 => ?_)
        · replace h := ipos c8 h
          exact w_X11_isFull_j69 X x0 x1 x2 z.2 σ KB KX0 Y (lv_sub hl [0, 1, 2, 4] rfl) h
        · replace h := ineg c8 h
          refine lv_iload X.1 X.2.1 (dk T_X11_isFull 31 rfl) (lv_at hl 5 rfl) ?_
          refine lv_if_eq (tgt := 69) X.1 X.2.1 (dk T_X11_isFull 32 rfl) rfl (fun c9 => ?_) (fun c9 => ?_)
          · replace h := ipos c9 h
            exact w_X11_isFull_j69 X x0 x1 x2 z.2 σ KB KX0 Y (lv_sub hl [0, 1, 2, 4] rfl) h
          · replace h := ineg c9 h
            refine lv_iconst (v := 1) X.1 X.2.1 (dk T_X11_isFull 33 rfl) ic_1 ?_
            refine lv_goto (tgt := 70) X.1 X.2.1 (dk T_X11_isFull 34 rfl) rfl ?_
            exact w_X11_isFull_j70 X x0 x1 x2 z.2 1 σ KB KX0 Y (lv_sub hl [0, 1, 2, 4] rfl) h
def f_X11_isFull_j123 (x0 : Int32) (x1 : Int32) (x2 : Int32) (x3 : Int32) (x4 : Int32) (x6 : Int32) (s0 : Int32) : Option ((Int32 × Int32) ⊕ (Int32)) :=
  some (.inl (s0, x6 + 1))
set_option maxHeartbeats 4000000 in
set_option maxRecDepth 100000 in
theorem w_X11_isFull_j123 (X : Cx g RX11 cX11_isFull 7 (some .boolean) p s m args meth c) (x0 : Int32) (x1 : Int32) (x2 : Int32) (x3 : Int32) (x4 : Int32) (x6 : Int32) (s0 : Int32) (σ : St) {w : (Int32 × Int32) ⊕ (Int32)} (KB : ∀ (v0_ : Int32) (v1_ : Int32), w = .inl (v0_, v1_) → ∀ (H : Heap) (locs : List Loc) (ls : Array Slot), Wd g s σ H locs → lv_has ls 7 [(0, .int (x0)), (1, .int (x1)), (2, .int (x2)), (3, .int (x3)), (4, .int (x4)), (5, .int (v0_)), (6, .int (v1_))] → W p l e (rmm 1 22) s m args below meth c H locs 0 0 Q (F0 m 92 ls [])) (KX0 : ∀ (v : Int32), w = .inr v → ∀ (H : Heap) (locs : List Loc) (ls : Array Slot), Wd g s σ H locs → lv_has ls 7 [(0, .int (x0)), (1, .int (x1)), (2, .int (x2)), (3, .int (x3)), (4, .int (x4)), (5, .int (v))] → W p l e (rmm 1 22) s m args below meth c H locs 0 0 Q (F0 m 131 ls [])) {H : Heap} {locs : List Loc} {ls : Array Slot} (Y : Wd g s σ H locs) (hl : lv_has ls 7 [(0, .int (x0)), (1, .int (x1)), (2, .int (x2)), (3, .int (x3)), (4, .int (x4)), (6, .int (x6))]) (h : f_X11_isFull_j123 x0 x1 x2 x3 x4 x6 s0 = some w) : W p l e (rmm 1 22) s m args below meth c H locs 0 0 Q (F0 m 123 ls [.int (s0)]) := by
  unfold f_X11_isFull_j123 at h
  refine lv_istore (lv' := [(5, .int (s0)), (0, .int (x0)), (1, .int (x1)), (2, .int (x2)), (3, .int (x3)), (4, .int (x4)), (6, .int (x6))]) X.1 X.2.1 (dk T_X11_isFull 63 rfl) hl (Nat.le_of_ble_eq_true rfl) rfl (fun ls hl => ?_)
  refine lv_iinc (v := x6 + 1) (lv' := [(6, .int (x6 + 1)), (5, .int (s0)), (0, .int (x0)), (1, .int (x1)), (2, .int (x2)), (3, .int (x3)), (4, .int (x4))]) X.1 X.2.1 (dk T_X11_isFull 64 rfl) hl (k := 6) rfl (icx ic_1) (Nat.le_of_ble_eq_true rfl) rfl (fun ls hl => ?_)
  refine lv_goto (tgt := 92) X.1 X.2.1 (dk T_X11_isFull 65 rfl) rfl ?_
  exact KB s0 (x6 + 1) (Option.some.inj h).symm _ _ _ Y (lv_sub hl [2, 3, 4, 5, 6, 1, 0] rfl)
def f_X11_isFull_j118 (x0 : Int32) (x1 : Int32) (x2 : Int32) (x3 : Int32) (x4 : Int32) (x6 : Int32) : Option ((Int32 × Int32) ⊕ (Int32)) :=
  f_X11_isFull_j123 x0 x1 x2 x3 x4 x6 1
set_option maxHeartbeats 4000000 in
set_option maxRecDepth 100000 in
theorem w_X11_isFull_j118 (X : Cx g RX11 cX11_isFull 7 (some .boolean) p s m args meth c) (x0 : Int32) (x1 : Int32) (x2 : Int32) (x3 : Int32) (x4 : Int32) (x6 : Int32) (σ : St) {w : (Int32 × Int32) ⊕ (Int32)} (KB : ∀ (v0_ : Int32) (v1_ : Int32), w = .inl (v0_, v1_) → ∀ (H : Heap) (locs : List Loc) (ls : Array Slot), Wd g s σ H locs → lv_has ls 7 [(0, .int (x0)), (1, .int (x1)), (2, .int (x2)), (3, .int (x3)), (4, .int (x4)), (5, .int (v0_)), (6, .int (v1_))] → W p l e (rmm 1 22) s m args below meth c H locs 0 0 Q (F0 m 92 ls [])) (KX0 : ∀ (v : Int32), w = .inr v → ∀ (H : Heap) (locs : List Loc) (ls : Array Slot), Wd g s σ H locs → lv_has ls 7 [(0, .int (x0)), (1, .int (x1)), (2, .int (x2)), (3, .int (x3)), (4, .int (x4)), (5, .int (v))] → W p l e (rmm 1 22) s m args below meth c H locs 0 0 Q (F0 m 131 ls [])) {H : Heap} {locs : List Loc} {ls : Array Slot} (Y : Wd g s σ H locs) (hl : lv_has ls 7 [(0, .int (x0)), (1, .int (x1)), (2, .int (x2)), (3, .int (x3)), (4, .int (x4)), (6, .int (x6))]) (h : f_X11_isFull_j118 x0 x1 x2 x3 x4 x6 = some w) : W p l e (rmm 1 22) s m args below meth c H locs 0 0 Q (F0 m 118 ls []) := by
  unfold f_X11_isFull_j118 at h
  refine lv_iconst (v := 1) X.1 X.2.1 (dk T_X11_isFull 60 rfl) ic_1 ?_
  refine lv_goto (tgt := 123) X.1 X.2.1 (dk T_X11_isFull 61 rfl) rfl ?_
  exact w_X11_isFull_j123 X x0 x1 x2 x3 x4 x6 1 σ KB KX0 Y (lv_sub hl [0, 1, 2, 3, 4, 5] rfl) h
def f_X11_isFull_l92 (x0 : Int32) (x1 : Int32) (x2 : Int32) (x3 : Int32) (x4 : Int32) (z : Int32 × Int32) : Option ((Int32 × Int32) ⊕ (Int32)) :=
  if x1 ≤ z.2 then some (.inr z.1) else if z.1 = 0 then (f_X11_at x0 x4 z.2).bind fun q14 => (f_X11_has x2 q14).bind fun q15 => if q15 = 0 then f_X11_isFull_j123 x0 x1 x2 x3 x4 z.2 0 else f_X11_isFull_j118 x0 x1 x2 x3 x4 z.2 else f_X11_isFull_j118 x0 x1 x2 x3 x4 z.2
set_option maxHeartbeats 4000000 in
set_option maxRecDepth 100000 in
theorem w_X11_isFull_l92 (X : Cx g RX11 cX11_isFull 7 (some .boolean) p s m args meth c) (x0 : Int32) (x1 : Int32) (x2 : Int32) (x3 : Int32) (x4 : Int32) (σ : St) {r : Int32} (KX0 : ∀ (v : Int32), r = v → ∀ (H : Heap) (locs : List Loc) (ls : Array Slot), Wd g s σ H locs → lv_has ls 7 [(0, .int (x0)), (1, .int (x1)), (2, .int (x2)), (3, .int (x3)), (4, .int (x4)), (5, .int (v))] → W p l e (rmm 1 22) s m args below meth c H locs 0 0 Q (F0 m 131 ls [])) : ∀ (n : Nat) (z : Int32 × Int32) {H : Heap} {locs : List Loc} {ls : Array Slot}, Wd g s σ H locs → lv_has ls 7 [(0, .int (x0)), (1, .int (x1)), (2, .int (x2)), (3, .int (x3)), (4, .int (x4)), (5, .int (z.1)), (6, .int (z.2))] → lp (f_X11_isFull_l92 x0 x1 x2 x3 x4) n z = some r → W p l e (rmm 1 22) s m args below meth c H locs 0 0 Q (F0 m 92 ls []) := by
  intro n
  induction n with
  | zero => intro z H locs ls Y hl h; cases h
  | succ n ih =>
    intro z H locs ls Y hl h
    obtain ⟨w, h, hw⟩ := lps h
    have KB : ∀ (v0_ : Int32) (v1_ : Int32), w = .inl (v0_, v1_) → ∀ (H : Heap) (locs : List Loc) (ls : Array Slot), Wd g s σ H locs → lv_has ls 7 [(0, .int (x0)), (1, .int (x1)), (2, .int (x2)), (3, .int (x3)), (4, .int (x4)), (5, .int (v0_)), (6, .int (v1_))] → W p l e (rmm 1 22) s m args below meth c H locs 0 0 Q (F0 m 92 ls []) := fun v0_ v1_ e H locs ls Y hl => ih (v0_, v1_) Y hl (lpl hw e)
    have KX0 := fun (v : Int32) (e : w = .inr v) => KX0 v (lpr hw e)
    unfold f_X11_isFull_l92 at h
    refine lv_iload X.1 X.2.1 (dk T_X11_isFull 48 rfl) (lv_at hl 6 rfl) ?_
    refine lv_iload_n X.1 X.2.1 (dk T_X11_isFull 49 rfl) rfl (lv_at hl 1 rfl) ?_
    refine lv_icmp_ge (tgt := 131) X.1 X.2.1 (dk T_X11_isFull 50 rfl) rfl (fun c12 => ?_) (fun c12 => ?_)
    · replace h := ipos c12 h
      exact KX0 z.1 (Option.some.inj h).symm _ _ _ Y (lv_sub hl [0, 1, 2, 3, 4, 5] rfl)
    · replace h := ineg c12 h
      refine lv_iload X.1 X.2.1 (dk T_X11_isFull 51 rfl) (lv_at hl 5 rfl) ?_
      refine lv_if_ne (tgt := 118) X.1 X.2.1 (dk T_X11_isFull 52 rfl) rfl (fun c13 => ?_) (fun c13 => ?_)
      · replace h := ineg c13 h
        exact w_X11_isFull_j118 X x0 x1 x2 x3 x4 z.2 σ KB KX0 Y (lv_sub hl [0, 1, 2, 3, 4, 6] rfl) h
      · replace h := ipos c13 h
        refine lv_iload_n X.1 X.2.1 (dk T_X11_isFull 53 rfl) rfl (lv_at hl 2 rfl) ?_
        refine lv_iload_n X.1 X.2.1 (dk T_X11_isFull 54 rfl) rfl (lv_at hl 0 rfl) ?_
        refine lv_iload X.1 X.2.1 (dk T_X11_isFull 55 rfl) (lv_at hl 4 rfl) ?_
        refine lv_iload X.1 X.2.1 (dk T_X11_isFull 56 rfl) (lv_at hl 6 rfl) ?_
        obtain ⟨q14, hq14, h⟩ := bs h
        refine gsI (rest := [.int (x2)]) X Y (c_X11_at x0 x4 z.2 σ hq14) cb_X11_102 hl.1 rfl rfl (Nat.le_of_ble_eq_true rfl) ⟨Nat.le_of_ble_eq_true rfl, Nat.le_of_ble_eq_true rfl⟩ (dk T_X11_isFull 57 rfl) (fun H locs Y => ?_)
        obtain ⟨q15, hq15, h⟩ := bs h
        refine gsI (rest := []) X Y (c_X11_has x2 q14 σ hq15) cb_X11_105 hl.1 rfl rfl (Nat.le_of_ble_eq_true rfl) ⟨Nat.le_of_ble_eq_true rfl, Nat.le_of_ble_eq_true rfl⟩ (dk T_X11_isFull 58 rfl) (fun H locs Y => ?_)
        refine lv_if_eq (tgt := 122) X.1 X.2.1 (dk T_X11_isFull 59 rfl) rfl (fun c16 => ?_) (fun c16 => ?_)
        · replace h := ipos c16 h
          refine lv_iconst (v := 0) X.1 X.2.1 (dk T_X11_isFull 62 rfl) ic_0 ?_
          exact w_X11_isFull_j123 X x0 x1 x2 x3 x4 z.2 0 σ KB KX0 Y (lv_sub hl [0, 1, 2, 3, 4, 6] rfl) h
        · replace h := ineg c16 h
          exact w_X11_isFull_j118 X x0 x1 x2 x3 x4 z.2 σ KB KX0 Y (lv_sub hl [0, 1, 2, 3, 4, 6] rfl) h
def f_X11_isFull_j145 (x0 : Int32) (x1 : Int32) (x2 : Int32) (x4 : Int32) (s0 : Int32) : Option ((Int32 × Int32) ⊕ (Int32)) :=
  some (.inl (s0, x4 + 1))
set_option maxHeartbeats 4000000 in
set_option maxRecDepth 100000 in
theorem w_X11_isFull_j145 (X : Cx g RX11 cX11_isFull 7 (some .boolean) p s m args meth c) (x0 : Int32) (x1 : Int32) (x2 : Int32) (x4 : Int32) (s0 : Int32) (σ : St) {w : (Int32 × Int32) ⊕ (Int32)} (KB : ∀ (v0_ : Int32) (v1_ : Int32), w = .inl (v0_, v1_) → ∀ (H : Heap) (locs : List Loc) (ls : Array Slot), Wd g s σ H locs → lv_has ls 7 [(0, .int (x0)), (1, .int (x1)), (2, .int (x2)), (3, .int (v0_)), (4, .int (v1_))] → W p l e (rmm 1 22) s m args below meth c H locs 0 0 Q (F0 m 80 ls [])) (KX0 : ∀ (v : Int32), w = .inr v → ∀ (H : Heap) (locs : List Loc) (ls : Array Slot), Wd g s σ H locs → lv_has ls 7 [(3, .int (v))] → W p l e (rmm 1 22) s m args below meth c H locs 0 0 Q (F0 m 152 ls [])) {H : Heap} {locs : List Loc} {ls : Array Slot} (Y : Wd g s σ H locs) (hl : lv_has ls 7 [(0, .int (x0)), (1, .int (x1)), (2, .int (x2)), (4, .int (x4))]) (h : f_X11_isFull_j145 x0 x1 x2 x4 s0 = some w) : W p l e (rmm 1 22) s m args below meth c H locs 0 0 Q (F0 m 145 ls [.int (s0)]) := by
  unfold f_X11_isFull_j145 at h
  refine lv_istore_n (lv' := [(3, .int (s0)), (0, .int (x0)), (1, .int (x1)), (2, .int (x2)), (4, .int (x4))]) X.1 X.2.1 (dk T_X11_isFull 73 rfl) rfl hl (Nat.le_of_ble_eq_true rfl) rfl (fun ls hl => ?_)
  refine lv_iinc (v := x4 + 1) (lv' := [(4, .int (x4 + 1)), (3, .int (s0)), (0, .int (x0)), (1, .int (x1)), (2, .int (x2))]) X.1 X.2.1 (dk T_X11_isFull 74 rfl) hl (k := 4) rfl (icx ic_1) (Nat.le_of_ble_eq_true rfl) rfl (fun ls hl => ?_)
  refine lv_goto (tgt := 80) X.1 X.2.1 (dk T_X11_isFull 75 rfl) rfl ?_
  exact KB s0 (x4 + 1) (Option.some.inj h).symm _ _ _ Y (lv_sub hl [2, 3, 4, 1, 0] rfl)
def f_X11_isFull_j144 (x0 : Int32) (x1 : Int32) (x2 : Int32) (x4 : Int32) : Option ((Int32 × Int32) ⊕ (Int32)) :=
  f_X11_isFull_j145 x0 x1 x2 x4 0
set_option maxHeartbeats 4000000 in
set_option maxRecDepth 100000 in
theorem w_X11_isFull_j144 (X : Cx g RX11 cX11_isFull 7 (some .boolean) p s m args meth c) (x0 : Int32) (x1 : Int32) (x2 : Int32) (x4 : Int32) (σ : St) {w : (Int32 × Int32) ⊕ (Int32)} (KB : ∀ (v0_ : Int32) (v1_ : Int32), w = .inl (v0_, v1_) → ∀ (H : Heap) (locs : List Loc) (ls : Array Slot), Wd g s σ H locs → lv_has ls 7 [(0, .int (x0)), (1, .int (x1)), (2, .int (x2)), (3, .int (v0_)), (4, .int (v1_))] → W p l e (rmm 1 22) s m args below meth c H locs 0 0 Q (F0 m 80 ls [])) (KX0 : ∀ (v : Int32), w = .inr v → ∀ (H : Heap) (locs : List Loc) (ls : Array Slot), Wd g s σ H locs → lv_has ls 7 [(3, .int (v))] → W p l e (rmm 1 22) s m args below meth c H locs 0 0 Q (F0 m 152 ls [])) {H : Heap} {locs : List Loc} {ls : Array Slot} (Y : Wd g s σ H locs) (hl : lv_has ls 7 [(0, .int (x0)), (1, .int (x1)), (2, .int (x2)), (4, .int (x4))]) (h : f_X11_isFull_j144 x0 x1 x2 x4 = some w) : W p l e (rmm 1 22) s m args below meth c H locs 0 0 Q (F0 m 144 ls []) := by
  unfold f_X11_isFull_j144 at h
  refine lv_iconst (v := 0) X.1 X.2.1 (dk T_X11_isFull 72 rfl) ic_0 ?_
  exact w_X11_isFull_j145 X x0 x1 x2 x4 0 σ KB KX0 Y (lv_sub hl [0, 1, 2, 3] rfl) h
def f_X11_isFull_l80 (x0 : Int32) (x1 : Int32) (x2 : Int32) (z : Int32 × Int32) : Option ((Int32 × Int32) ⊕ (Int32)) :=
  if x0 ≤ z.2 then some (.inr z.1) else (lp (f_X11_isFull_l92 x0 x1 x2 z.1 z.2) FU (0, 0)).bind fun q17 => if z.1 = 0 then f_X11_isFull_j144 x0 x1 x2 z.2 else if q17 = 0 then f_X11_isFull_j144 x0 x1 x2 z.2 else f_X11_isFull_j145 x0 x1 x2 z.2 1
set_option maxHeartbeats 4000000 in
set_option maxRecDepth 100000 in
theorem w_X11_isFull_l80 (X : Cx g RX11 cX11_isFull 7 (some .boolean) p s m args meth c) (x0 : Int32) (x1 : Int32) (x2 : Int32) (σ : St) {r : Int32} (KX0 : ∀ (v : Int32), r = v → ∀ (H : Heap) (locs : List Loc) (ls : Array Slot), Wd g s σ H locs → lv_has ls 7 [(3, .int (v))] → W p l e (rmm 1 22) s m args below meth c H locs 0 0 Q (F0 m 152 ls [])) : ∀ (n : Nat) (z : Int32 × Int32) {H : Heap} {locs : List Loc} {ls : Array Slot}, Wd g s σ H locs → lv_has ls 7 [(0, .int (x0)), (1, .int (x1)), (2, .int (x2)), (3, .int (z.1)), (4, .int (z.2))] → lp (f_X11_isFull_l80 x0 x1 x2) n z = some r → W p l e (rmm 1 22) s m args below meth c H locs 0 0 Q (F0 m 80 ls []) := by
  intro n
  induction n with
  | zero => intro z H locs ls Y hl h; cases h
  | succ n ih =>
    intro z H locs ls Y hl h
    obtain ⟨w, h, hw⟩ := lps h
    have KB : ∀ (v0_ : Int32) (v1_ : Int32), w = .inl (v0_, v1_) → ∀ (H : Heap) (locs : List Loc) (ls : Array Slot), Wd g s σ H locs → lv_has ls 7 [(0, .int (x0)), (1, .int (x1)), (2, .int (x2)), (3, .int (v0_)), (4, .int (v1_))] → W p l e (rmm 1 22) s m args below meth c H locs 0 0 Q (F0 m 80 ls []) := fun v0_ v1_ e H locs ls Y hl => ih (v0_, v1_) Y hl (lpl hw e)
    have KX0 := fun (v : Int32) (e : w = .inr v) => KX0 v (lpr hw e)
    unfold f_X11_isFull_l80 at h
    refine lv_iload X.1 X.2.1 (dk T_X11_isFull 41 rfl) (lv_at hl 4 rfl) ?_
    refine lv_iload_n X.1 X.2.1 (dk T_X11_isFull 42 rfl) rfl (lv_at hl 0 rfl) ?_
    refine lv_icmp_ge (tgt := 152) X.1 X.2.1 (dk T_X11_isFull 43 rfl) rfl (fun c11 => ?_) (fun c11 => ?_)
    · replace h := ipos c11 h
      exact KX0 z.1 (Option.some.inj h).symm _ _ _ Y (lv_sub hl [3] rfl)
    · replace h := ineg c11 h
      refine lv_iconst (v := 0) X.1 X.2.1 (dk T_X11_isFull 44 rfl) ic_0 ?_
      refine lv_istore (lv' := [(5, .int (0)), (0, .int (x0)), (1, .int (x1)), (2, .int (x2)), (3, .int (z.1)), (4, .int (z.2))]) X.1 X.2.1 (dk T_X11_isFull 45 rfl) hl (Nat.le_of_ble_eq_true rfl) rfl (fun ls hl => ?_)
      refine lv_iconst (v := 0) X.1 X.2.1 (dk T_X11_isFull 46 rfl) ic_0 ?_
      refine lv_istore (lv' := [(6, .int (0)), (5, .int (0)), (0, .int (x0)), (1, .int (x1)), (2, .int (x2)), (3, .int (z.1)), (4, .int (z.2))]) X.1 X.2.1 (dk T_X11_isFull 47 rfl) hl (Nat.le_of_ble_eq_true rfl) rfl (fun ls hl => ?_)
      obtain ⟨q17, hq17, h⟩ := bs h
      refine w_X11_isFull_l92 X x0 x1 x2 z.1 z.2 σ (fun v e H locs ls Y hl => ?_) FU (0, 0) Y (lv_sub hl [2, 3, 4, 5, 6, 1, 0] rfl) hq17
      · obtain rfl := e
        refine lv_iload_n X.1 X.2.1 (dk T_X11_isFull 66 rfl) rfl (lv_at hl 3 rfl) ?_
        refine lv_if_eq (tgt := 144) X.1 X.2.1 (dk T_X11_isFull 67 rfl) rfl (fun c18 => ?_) (fun c18 => ?_)
        · replace h := ipos c18 h
          exact w_X11_isFull_j144 X x0 x1 x2 z.2 σ KB KX0 Y (lv_sub hl [0, 1, 2, 4] rfl) h
        · replace h := ineg c18 h
          refine lv_iload X.1 X.2.1 (dk T_X11_isFull 68 rfl) (lv_at hl 5 rfl) ?_
          refine lv_if_eq (tgt := 144) X.1 X.2.1 (dk T_X11_isFull 69 rfl) rfl (fun c19 => ?_) (fun c19 => ?_)
          · replace h := ipos c19 h
            exact w_X11_isFull_j144 X x0 x1 x2 z.2 σ KB KX0 Y (lv_sub hl [0, 1, 2, 4] rfl) h
          · replace h := ineg c19 h
            refine lv_iconst (v := 1) X.1 X.2.1 (dk T_X11_isFull 70 rfl) ic_1 ?_
            refine lv_goto (tgt := 145) X.1 X.2.1 (dk T_X11_isFull 71 rfl) rfl ?_
            exact w_X11_isFull_j145 X x0 x1 x2 z.2 1 σ KB KX0 Y (lv_sub hl [0, 1, 2, 4] rfl) h
def f_X11_isFull_0 (x0 : Int32) (x1 : Int32) (x2 : Int32) : Option (Int32) :=
  (lp (f_X11_isFull_l5 x0 x1 x2) FU (1, 0)).bind fun q10 => (lp (f_X11_isFull_l80 x0 x1 x2) FU (q10, 0)).bind fun q20 => some q20
set_option maxHeartbeats 4000000 in
set_option maxRecDepth 100000 in
theorem w_X11_isFull_0 (X : Cx g RX11 cX11_isFull 7 (some .boolean) p s m args meth c) (x0 : Int32) (x1 : Int32) (x2 : Int32) (σ : St) {w : Int32} (KR : ∀ (H : Heap) (locs : List Loc) (ls : Array Slot) (pc : Nat), Wd g s σ H locs → decode cX11_isFull pc = .ok (.ireturn, 1) → W p l e (rmm 1 22) s m args below meth c H locs 0 0 Q (F0 m pc ls [.int (w)])) {H : Heap} {locs : List Loc} {ls : Array Slot} (Y : Wd g s σ H locs) (hl : lv_has ls 7 [(0, .int (x0)), (1, .int (x1)), (2, .int (x2))]) (h : f_X11_isFull_0 x0 x1 x2 = some w) : W p l e (rmm 1 22) s m args below meth c H locs 0 0 Q (F0 m 0 ls []) := by
  unfold f_X11_isFull_0 at h
  refine lv_iconst (v := 1) X.1 X.2.1 (dk T_X11_isFull 0 rfl) ic_1 ?_
  refine lv_istore_n (lv' := [(3, .int (1)), (0, .int (x0)), (1, .int (x1)), (2, .int (x2))]) X.1 X.2.1 (dk T_X11_isFull 1 rfl) rfl hl (Nat.le_of_ble_eq_true rfl) rfl (fun ls hl => ?_)
  refine lv_iconst (v := 0) X.1 X.2.1 (dk T_X11_isFull 2 rfl) ic_0 ?_
  refine lv_istore (lv' := [(4, .int (0)), (3, .int (1)), (0, .int (x0)), (1, .int (x1)), (2, .int (x2))]) X.1 X.2.1 (dk T_X11_isFull 3 rfl) hl (Nat.le_of_ble_eq_true rfl) rfl (fun ls hl => ?_)
  obtain ⟨q10, hq10, h⟩ := bs h
  refine w_X11_isFull_l5 X x0 x1 x2 σ (fun v e H locs ls Y hl => ?_) FU (1, 0) Y (lv_sub hl [2, 3, 4, 1, 0] rfl) hq10
  · obtain rfl := e
    refine lv_iconst (v := 0) X.1 X.2.1 (dk T_X11_isFull 39 rfl) ic_0 ?_
    refine lv_istore (lv' := [(4, .int (0)), (0, .int (x0)), (1, .int (x1)), (2, .int (x2)), (3, .int (q10))]) X.1 X.2.1 (dk T_X11_isFull 40 rfl) hl (Nat.le_of_ble_eq_true rfl) rfl (fun ls hl => ?_)
    obtain ⟨q20, hq20, h⟩ := bs h
    refine w_X11_isFull_l80 X x0 x1 x2 σ (fun v e H locs ls Y hl => ?_) FU (q10, 0) Y (lv_sub hl [1, 2, 3, 4, 0] rfl) hq20
    · obtain rfl := e
      refine lv_iload_n X.1 X.2.1 (dk T_X11_isFull 76 rfl) rfl (lv_at hl 0 rfl) ?_
      obtain rfl := Option.some.inj h
      exact KR _ _ _ _ Y (dk T_X11_isFull 77 rfl)
def f_X11_isFull (x0 : Int32) (x1 : Int32) (x2 : Int32) : Option (Int32) := bz (f_X11_isFull_0 x0 x1 x2)
set_option maxHeartbeats 4000000 in
set_option maxRecDepth 100000 in
theorem c_X11_isFull {l : Launch} {g : Geo} (x0 : Int32) (x1 : Int32) (x2 : Int32) (σ : St) {w : Int32} (h : f_X11_isFull x0 x1 x2 = some w) : CtI l yX11_isFull cX11_isFull 7 (some .boolean) (rmm 1 22) g [.int (x0), .int (x1), .int (x2)] σ w σ := by
  obtain ⟨h, hz⟩ := bz_s h
  exact enI .boolean (by decide) rfl (bz_n hz) (Nat.le_of_ble_eq_true rfl) (fun p e s m args below meth c Q X Y ls hl KR => w_X11_isFull_0 X x0 x1 x2 σ KR Y hl h)
def I_X11_lowest : List (Nat × Instr × Nat) := [(0, .iload_n 0, 1), (1, .iload_n 0, 1), (2, .ineg, 1), (3, .iand, 1), (4, .ireturn, 1)]
set_option maxRecDepth 100000 in
theorem T_X11_lowest : ∀ q ∈ I_X11_lowest, decode cX11_lowest q.1 = .ok (q.2.1, q.2.2) := by decide +kernel
def f_X11_lowest_0 (x0 : Int32) : Option (Int32) :=
  some (x0 &&& (-x0))
set_option maxHeartbeats 4000000 in
set_option maxRecDepth 100000 in
theorem w_X11_lowest_0 (X : Cx g RX11 cX11_lowest 1 (some .int) p s m args meth c) (x0 : Int32) (σ : St) {w : Int32} (KR : ∀ (H : Heap) (locs : List Loc) (ls : Array Slot) (pc : Nat), Wd g s σ H locs → decode cX11_lowest pc = .ok (.ireturn, 1) → W p l e (rmm 0 0) s m args below meth c H locs 0 0 Q (F0 m pc ls [.int (w)])) {H : Heap} {locs : List Loc} {ls : Array Slot} (Y : Wd g s σ H locs) (hl : lv_has ls 1 [(0, .int (x0))]) (h : f_X11_lowest_0 x0 = some w) : W p l e (rmm 0 0) s m args below meth c H locs 0 0 Q (F0 m 0 ls []) := by
  unfold f_X11_lowest_0 at h
  refine lv_iload_n X.1 X.2.1 (dk T_X11_lowest 0 rfl) rfl (lv_at hl 0 rfl) ?_
  refine lv_iload_n X.1 X.2.1 (dk T_X11_lowest 1 rfl) rfl (lv_at hl 0 rfl) ?_
  refine lv_ineg X.1 X.2.1 (dk T_X11_lowest 2 rfl) ?_
  refine lv_iand X.1 X.2.1 (dk T_X11_lowest 3 rfl) ?_
  obtain rfl := Option.some.inj h
  exact KR _ _ _ _ Y (dk T_X11_lowest 4 rfl)
def f_X11_lowest (x0 : Int32) : Option (Int32) := f_X11_lowest_0 x0
set_option maxHeartbeats 4000000 in
set_option maxRecDepth 100000 in
theorem c_X11_lowest {l : Launch} {g : Geo} (x0 : Int32) (σ : St) {w : Int32} (h : f_X11_lowest x0 = some w) : CtI l yX11_lowest cX11_lowest 1 (some .int) (rmm 0 0) g [.int (x0)] σ w σ := enI .int (by decide) rfl rfl (Nat.le_of_ble_eq_true rfl) (fun p e s m args below meth c Q X Y ls hl KR => w_X11_lowest_0 X x0 σ KR Y hl h)
def I_X11_spread : List (Nat × Instr × Nat) := [(0, .iload_n 3, 1), (1, .istore 4, 2), (3, .iconst 0, 1), (4, .istore 5, 2), (6, .iload 5, 2), (8, .bipush 16, 2), (10, .if_icmp .ge 183, 3), (13, .iconst 0, 1), (14, .istore 6, 2), (16, .iload 6, 2), (18, .iload_n 1, 1), (19, .if_icmp .ge 168, 3), (22, .iconst 0, 1), (23, .istore 7, 2), (25, .iload 7, 2), (27, .iload_n 0, 1), (28, .if_icmp .ge 153, 3), (31, .iload 7, 2), (33, .ifCond .le 21, 3), (36, .iload 4, 2), (38, .iload_n 0, 1), (39, .iload 7, 2), (41, .iconst 1, 1), (42, .isub, 1), (43, .iload 6, 2), (45, .invokestatic 102, 3), (48, .invokestatic 105, 3), (51, .ifCond .ne 78, 3), (54, .iload 7, 2), (56, .iconst 1, 1), (57, .iadd, 1), (58, .iload_n 0, 1), (59, .if_icmp .ge 21, 3), (62, .iload 4, 2), (64, .iload_n 0, 1), (65, .iload 7, 2), (67, .iconst 1, 1), (68, .iadd, 1), (69, .iload 6, 2), (71, .invokestatic 102, 3), (74, .invokestatic 105, 3), (77, .ifCond .ne 52, 3), (80, .iload 6, 2), (82, .ifCond .le 21, 3), (85, .iload 4, 2), (87, .iload_n 0, 1), (88, .iload 7, 2), (90, .iload 6, 2), (92, .iconst 1, 1), (93, .isub, 1), (94, .invokestatic 102, 3), (97, .invokestatic 105, 3), (100, .ifCond .ne 29, 3), (103, .iload 6, 2), (105, .iconst 1, 1), (106, .iadd, 1), (107, .iload_n 1, 1), (108, .if_icmp .ge 25, 3), (111, .iload 4, 2), (113, .iload_n 0, 1), (114, .iload 7, 2), (116, .iload 6, 2), (118, .iconst 1, 1), (119, .iadd, 1), (120, .invokestatic 102, 3), (123, .invokestatic 105, 3), (126, .ifCond .eq 7, 3), (129, .iconst 1, 1), (130, .goto 4, 3), (133, .iconst 0, 1), (134, .istore 8, 2), (136, .iload 4, 2), (138, .iload 8, 2), (140, .ifCond .eq 31, 3), (143, .iload_n 2, 1), (144, .iload_n 0, 1), (145, .iload 7, 2), (147, .iload 6, 2), (149, .invokestatic 102, 3), (152, .invokestatic 105, 3), (155, .ifCond .eq 16, 3), (158, .iconst 1, 1), (159, .iload_n 0, 1), (160, .iload 7, 2), (162, .iload 6, 2), (164, .invokestatic 102, 3), (167, .ishl, 1), (168, .goto 4, 3), (171, .iconst 0, 1), (172, .ior, 1), (173, .istore 4, 2), (175, .iinc 7 1, 3), (178, .goto (-153), 3), (181, .iinc 6 1, 3), (184, .goto (-168), 3), (187, .iinc 5 1, 3), (190, .goto (-184), 3), (193, .iload 4, 2), (195, .ireturn, 1)]
set_option maxRecDepth 100000 in
theorem T_X11_spread : ∀ q ∈ I_X11_spread, decode cX11_spread q.1 = .ok (q.2.1, q.2.2) := by decide +kernel
def f_X11_spread_j172 (x0 : Int32) (x1 : Int32) (x2 : Int32) (x5 : Int32) (x6 : Int32) (x7 : Int32) (s0 : Int32) (s1 : Int32) : Option ((Int32 × Int32) ⊕ (Int32)) :=
  some (.inl (s1 ||| s0, x7 + 1))
set_option maxHeartbeats 4000000 in
set_option maxRecDepth 100000 in
theorem w_X11_spread_j172 (X : Cx g RX11 cX11_spread 9 (some .int) p s m args meth c) (x0 : Int32) (x1 : Int32) (x2 : Int32) (x5 : Int32) (x6 : Int32) (x7 : Int32) (s0 : Int32) (s1 : Int32) (σ : St) {w : (Int32 × Int32) ⊕ (Int32)} (KB : ∀ (v0_ : Int32) (v1_ : Int32), w = .inl (v0_, v1_) → ∀ (H : Heap) (locs : List Loc) (ls : Array Slot), Wd g s σ H locs → lv_has ls 9 [(0, .int (x0)), (1, .int (x1)), (2, .int (x2)), (4, .int (v0_)), (5, .int (x5)), (6, .int (x6)), (7, .int (v1_))] → W p l e (rmm 1 22) s m args below meth c H locs 0 0 Q (F0 m 25 ls [])) (KX0 : ∀ (v : Int32), w = .inr v → ∀ (H : Heap) (locs : List Loc) (ls : Array Slot), Wd g s σ H locs → lv_has ls 9 [(0, .int (x0)), (1, .int (x1)), (2, .int (x2)), (4, .int (v)), (5, .int (x5)), (6, .int (x6))] → W p l e (rmm 1 22) s m args below meth c H locs 0 0 Q (F0 m 181 ls [])) {H : Heap} {locs : List Loc} {ls : Array Slot} (Y : Wd g s σ H locs) (hl : lv_has ls 9 [(0, .int (x0)), (1, .int (x1)), (2, .int (x2)), (5, .int (x5)), (6, .int (x6)), (7, .int (x7))]) (h : f_X11_spread_j172 x0 x1 x2 x5 x6 x7 s0 s1 = some w) : W p l e (rmm 1 22) s m args below meth c H locs 0 0 Q (F0 m 172 ls [.int (s0), .int (s1)]) := by
  unfold f_X11_spread_j172 at h
  refine lv_ior X.1 X.2.1 (dk T_X11_spread 89 rfl) ?_
  refine lv_istore (lv' := [(4, .int (s1 ||| s0)), (0, .int (x0)), (1, .int (x1)), (2, .int (x2)), (5, .int (x5)), (6, .int (x6)), (7, .int (x7))]) X.1 X.2.1 (dk T_X11_spread 90 rfl) hl (Nat.le_of_ble_eq_true rfl) rfl (fun ls hl => ?_)
  refine lv_iinc (v := x7 + 1) (lv' := [(7, .int (x7 + 1)), (4, .int (s1 ||| s0)), (0, .int (x0)), (1, .int (x1)), (2, .int (x2)), (5, .int (x5)), (6, .int (x6))]) X.1 X.2.1 (dk T_X11_spread 91 rfl) hl (k := 6) rfl (icx ic_1) (Nat.le_of_ble_eq_true rfl) rfl (fun ls hl => ?_)
  refine lv_goto (tgt := 25) X.1 X.2.1 (dk T_X11_spread 92 rfl) rfl ?_
  exact KB (s1 ||| s0) (x7 + 1) (Option.some.inj h).symm _ _ _ Y (lv_sub hl [2, 3, 4, 1, 5, 6, 0] rfl)
def f_X11_spread_j171 (x0 : Int32) (x1 : Int32) (x2 : Int32) (x5 : Int32) (x6 : Int32) (x7 : Int32) (s0 : Int32) : Option ((Int32 × Int32) ⊕ (Int32)) :=
  f_X11_spread_j172 x0 x1 x2 x5 x6 x7 0 s0
set_option maxHeartbeats 4000000 in
set_option maxRecDepth 100000 in
theorem w_X11_spread_j171 (X : Cx g RX11 cX11_spread 9 (some .int) p s m args meth c) (x0 : Int32) (x1 : Int32) (x2 : Int32) (x5 : Int32) (x6 : Int32) (x7 : Int32) (s0 : Int32) (σ : St) {w : (Int32 × Int32) ⊕ (Int32)} (KB : ∀ (v0_ : Int32) (v1_ : Int32), w = .inl (v0_, v1_) → ∀ (H : Heap) (locs : List Loc) (ls : Array Slot), Wd g s σ H locs → lv_has ls 9 [(0, .int (x0)), (1, .int (x1)), (2, .int (x2)), (4, .int (v0_)), (5, .int (x5)), (6, .int (x6)), (7, .int (v1_))] → W p l e (rmm 1 22) s m args below meth c H locs 0 0 Q (F0 m 25 ls [])) (KX0 : ∀ (v : Int32), w = .inr v → ∀ (H : Heap) (locs : List Loc) (ls : Array Slot), Wd g s σ H locs → lv_has ls 9 [(0, .int (x0)), (1, .int (x1)), (2, .int (x2)), (4, .int (v)), (5, .int (x5)), (6, .int (x6))] → W p l e (rmm 1 22) s m args below meth c H locs 0 0 Q (F0 m 181 ls [])) {H : Heap} {locs : List Loc} {ls : Array Slot} (Y : Wd g s σ H locs) (hl : lv_has ls 9 [(0, .int (x0)), (1, .int (x1)), (2, .int (x2)), (5, .int (x5)), (6, .int (x6)), (7, .int (x7))]) (h : f_X11_spread_j171 x0 x1 x2 x5 x6 x7 s0 = some w) : W p l e (rmm 1 22) s m args below meth c H locs 0 0 Q (F0 m 171 ls [.int (s0)]) := by
  unfold f_X11_spread_j171 at h
  refine lv_iconst (v := 0) X.1 X.2.1 (dk T_X11_spread 88 rfl) ic_0 ?_
  exact w_X11_spread_j172 X x0 x1 x2 x5 x6 x7 0 s0 σ KB KX0 Y (lv_sub hl [0, 1, 2, 3, 4, 5] rfl) h
def f_X11_spread_j134 (x0 : Int32) (x1 : Int32) (x2 : Int32) (x4 : Int32) (x5 : Int32) (x6 : Int32) (x7 : Int32) (s0 : Int32) : Option ((Int32 × Int32) ⊕ (Int32)) :=
  if s0 = 0 then f_X11_spread_j171 x0 x1 x2 x5 x6 x7 x4 else (f_X11_at x0 x7 x6).bind fun q9 => (f_X11_has x2 q9).bind fun q10 => if q10 = 0 then f_X11_spread_j171 x0 x1 x2 x5 x6 x7 x4 else (f_X11_at x0 x7 x6).bind fun q12 => f_X11_spread_j172 x0 x1 x2 x5 x6 x7 ((1 : Int32) <<< (q12 &&& 31)) x4
set_option maxHeartbeats 4000000 in
set_option maxRecDepth 100000 in
theorem w_X11_spread_j134 (X : Cx g RX11 cX11_spread 9 (some .int) p s m args meth c) (x0 : Int32) (x1 : Int32) (x2 : Int32) (x4 : Int32) (x5 : Int32) (x6 : Int32) (x7 : Int32) (s0 : Int32) (σ : St) {w : (Int32 × Int32) ⊕ (Int32)} (KB : ∀ (v0_ : Int32) (v1_ : Int32), w = .inl (v0_, v1_) → ∀ (H : Heap) (locs : List Loc) (ls : Array Slot), Wd g s σ H locs → lv_has ls 9 [(0, .int (x0)), (1, .int (x1)), (2, .int (x2)), (4, .int (v0_)), (5, .int (x5)), (6, .int (x6)), (7, .int (v1_))] → W p l e (rmm 1 22) s m args below meth c H locs 0 0 Q (F0 m 25 ls [])) (KX0 : ∀ (v : Int32), w = .inr v → ∀ (H : Heap) (locs : List Loc) (ls : Array Slot), Wd g s σ H locs → lv_has ls 9 [(0, .int (x0)), (1, .int (x1)), (2, .int (x2)), (4, .int (v)), (5, .int (x5)), (6, .int (x6))] → W p l e (rmm 1 22) s m args below meth c H locs 0 0 Q (F0 m 181 ls [])) {H : Heap} {locs : List Loc} {ls : Array Slot} (Y : Wd g s σ H locs) (hl : lv_has ls 9 [(0, .int (x0)), (1, .int (x1)), (2, .int (x2)), (4, .int (x4)), (5, .int (x5)), (6, .int (x6)), (7, .int (x7))]) (h : f_X11_spread_j134 x0 x1 x2 x4 x5 x6 x7 s0 = some w) : W p l e (rmm 1 22) s m args below meth c H locs 0 0 Q (F0 m 134 ls [.int (s0)]) := by
  unfold f_X11_spread_j134 at h
  refine lv_istore (lv' := [(8, .int (s0)), (0, .int (x0)), (1, .int (x1)), (2, .int (x2)), (4, .int (x4)), (5, .int (x5)), (6, .int (x6)), (7, .int (x7))]) X.1 X.2.1 (dk T_X11_spread 70 rfl) hl (Nat.le_of_ble_eq_true rfl) rfl (fun ls hl => ?_)
  refine lv_iload X.1 X.2.1 (dk T_X11_spread 71 rfl) (lv_at hl 4 rfl) ?_
  refine lv_iload X.1 X.2.1 (dk T_X11_spread 72 rfl) (lv_at hl 0 rfl) ?_
  refine lv_if_eq (tgt := 171) X.1 X.2.1 (dk T_X11_spread 73 rfl) rfl (fun c8 => ?_) (fun c8 => ?_)
  · replace h := ipos c8 h
    exact w_X11_spread_j171 X x0 x1 x2 x5 x6 x7 x4 σ KB KX0 Y (lv_sub hl [1, 2, 3, 5, 6, 7] rfl) h
  · replace h := ineg c8 h
    refine lv_iload_n X.1 X.2.1 (dk T_X11_spread 74 rfl) rfl (lv_at hl 3 rfl) ?_
    refine lv_iload_n X.1 X.2.1 (dk T_X11_spread 75 rfl) rfl (lv_at hl 1 rfl) ?_
    refine lv_iload X.1 X.2.1 (dk T_X11_spread 76 rfl) (lv_at hl 7 rfl) ?_
    refine lv_iload X.1 X.2.1 (dk T_X11_spread 77 rfl) (lv_at hl 6 rfl) ?_
    obtain ⟨q9, hq9, h⟩ := bs h
    refine gsI (rest := [.int (x2), .int (x4)]) X Y (c_X11_at x0 x7 x6 σ hq9) cb_X11_102 hl.1 rfl rfl (Nat.le_of_ble_eq_true rfl) ⟨Nat.le_of_ble_eq_true rfl, Nat.le_of_ble_eq_true rfl⟩ (dk T_X11_spread 78 rfl) (fun H locs Y => ?_)
    obtain ⟨q10, hq10, h⟩ := bs h
    refine gsI (rest := [.int (x4)]) X Y (c_X11_has x2 q9 σ hq10) cb_X11_105 hl.1 rfl rfl (Nat.le_of_ble_eq_true rfl) ⟨Nat.le_of_ble_eq_true rfl, Nat.le_of_ble_eq_true rfl⟩ (dk T_X11_spread 79 rfl) (fun H locs Y => ?_)
    refine lv_if_eq (tgt := 171) X.1 X.2.1 (dk T_X11_spread 80 rfl) rfl (fun c11 => ?_) (fun c11 => ?_)
    · replace h := ipos c11 h
      exact w_X11_spread_j171 X x0 x1 x2 x5 x6 x7 x4 σ KB KX0 Y (lv_sub hl [1, 2, 3, 5, 6, 7] rfl) h
    · replace h := ineg c11 h
      refine lv_iconst (v := 1) X.1 X.2.1 (dk T_X11_spread 81 rfl) ic_1 ?_
      refine lv_iload_n X.1 X.2.1 (dk T_X11_spread 82 rfl) rfl (lv_at hl 1 rfl) ?_
      refine lv_iload X.1 X.2.1 (dk T_X11_spread 83 rfl) (lv_at hl 7 rfl) ?_
      refine lv_iload X.1 X.2.1 (dk T_X11_spread 84 rfl) (lv_at hl 6 rfl) ?_
      obtain ⟨q12, hq12, h⟩ := bs h
      refine gsI (rest := [.int (1), .int (x4)]) X Y (c_X11_at x0 x7 x6 σ hq12) cb_X11_102 hl.1 rfl rfl (Nat.le_of_ble_eq_true rfl) ⟨Nat.le_of_ble_eq_true rfl, Nat.le_of_ble_eq_true rfl⟩ (dk T_X11_spread 85 rfl) (fun H locs Y => ?_)
      refine lv_ishl X.1 X.2.1 (dk T_X11_spread 86 rfl) ?_
      refine lv_goto (tgt := 172) X.1 X.2.1 (dk T_X11_spread 87 rfl) rfl ?_
      exact w_X11_spread_j172 X x0 x1 x2 x5 x6 x7 ((1 : Int32) <<< (q12 &&& 31)) x4 σ KB KX0 Y (lv_sub hl [1, 2, 3, 5, 6, 7] rfl) h
def f_X11_spread_j133 (x0 : Int32) (x1 : Int32) (x2 : Int32) (x4 : Int32) (x5 : Int32) (x6 : Int32) (x7 : Int32) : Option ((Int32 × Int32) ⊕ (Int32)) :=
  f_X11_spread_j134 x0 x1 x2 x4 x5 x6 x7 0
set_option maxHeartbeats 4000000 in
set_option maxRecDepth 100000 in
theorem w_X11_spread_j133 (X : Cx g RX11 cX11_spread 9 (some .int) p s m args meth c) (x0 : Int32) (x1 : Int32) (x2 : Int32) (x4 : Int32) (x5 : Int32) (x6 : Int32) (x7 : Int32) (σ : St) {w : (Int32 × Int32) ⊕ (Int32)} (KB : ∀ (v0_ : Int32) (v1_ : Int32), w = .inl (v0_, v1_) → ∀ (H : Heap) (locs : List Loc) (ls : Array Slot), Wd g s σ H locs → lv_has ls 9 [(0, .int (x0)), (1, .int (x1)), (2, .int (x2)), (4, .int (v0_)), (5, .int (x5)), (6, .int (x6)), (7, .int (v1_))] → W p l e (rmm 1 22) s m args below meth c H locs 0 0 Q (F0 m 25 ls [])) (KX0 : ∀ (v : Int32), w = .inr v → ∀ (H : Heap) (locs : List Loc) (ls : Array Slot), Wd g s σ H locs → lv_has ls 9 [(0, .int (x0)), (1, .int (x1)), (2, .int (x2)), (4, .int (v)), (5, .int (x5)), (6, .int (x6))] → W p l e (rmm 1 22) s m args below meth c H locs 0 0 Q (F0 m 181 ls [])) {H : Heap} {locs : List Loc} {ls : Array Slot} (Y : Wd g s σ H locs) (hl : lv_has ls 9 [(0, .int (x0)), (1, .int (x1)), (2, .int (x2)), (4, .int (x4)), (5, .int (x5)), (6, .int (x6)), (7, .int (x7))]) (h : f_X11_spread_j133 x0 x1 x2 x4 x5 x6 x7 = some w) : W p l e (rmm 1 22) s m args below meth c H locs 0 0 Q (F0 m 133 ls []) := by
  unfold f_X11_spread_j133 at h
  refine lv_iconst (v := 0) X.1 X.2.1 (dk T_X11_spread 69 rfl) ic_0 ?_
  exact w_X11_spread_j134 X x0 x1 x2 x4 x5 x6 x7 0 σ KB KX0 Y (lv_sub hl [0, 1, 2, 3, 4, 5, 6] rfl) h
def f_X11_spread_j129 (x0 : Int32) (x1 : Int32) (x2 : Int32) (x4 : Int32) (x5 : Int32) (x6 : Int32) (x7 : Int32) : Option ((Int32 × Int32) ⊕ (Int32)) :=
  f_X11_spread_j134 x0 x1 x2 x4 x5 x6 x7 1
set_option maxHeartbeats 4000000 in
set_option maxRecDepth 100000 in
theorem w_X11_spread_j129 (X : Cx g RX11 cX11_spread 9 (some .int) p s m args meth c) (x0 : Int32) (x1 : Int32) (x2 : Int32) (x4 : Int32) (x5 : Int32) (x6 : Int32) (x7 : Int32) (σ : St) {w : (Int32 × Int32) ⊕ (Int32)} (KB : ∀ (v0_ : Int32) (v1_ : Int32), w = .inl (v0_, v1_) → ∀ (H : Heap) (locs : List Loc) (ls : Array Slot), Wd g s σ H locs → lv_has ls 9 [(0, .int (x0)), (1, .int (x1)), (2, .int (x2)), (4, .int (v0_)), (5, .int (x5)), (6, .int (x6)), (7, .int (v1_))] → W p l e (rmm 1 22) s m args below meth c H locs 0 0 Q (F0 m 25 ls [])) (KX0 : ∀ (v : Int32), w = .inr v → ∀ (H : Heap) (locs : List Loc) (ls : Array Slot), Wd g s σ H locs → lv_has ls 9 [(0, .int (x0)), (1, .int (x1)), (2, .int (x2)), (4, .int (v)), (5, .int (x5)), (6, .int (x6))] → W p l e (rmm 1 22) s m args below meth c H locs 0 0 Q (F0 m 181 ls [])) {H : Heap} {locs : List Loc} {ls : Array Slot} (Y : Wd g s σ H locs) (hl : lv_has ls 9 [(0, .int (x0)), (1, .int (x1)), (2, .int (x2)), (4, .int (x4)), (5, .int (x5)), (6, .int (x6)), (7, .int (x7))]) (h : f_X11_spread_j129 x0 x1 x2 x4 x5 x6 x7 = some w) : W p l e (rmm 1 22) s m args below meth c H locs 0 0 Q (F0 m 129 ls []) := by
  unfold f_X11_spread_j129 at h
  refine lv_iconst (v := 1) X.1 X.2.1 (dk T_X11_spread 67 rfl) ic_1 ?_
  refine lv_goto (tgt := 134) X.1 X.2.1 (dk T_X11_spread 68 rfl) rfl ?_
  exact w_X11_spread_j134 X x0 x1 x2 x4 x5 x6 x7 1 σ KB KX0 Y (lv_sub hl [0, 1, 2, 3, 4, 5, 6] rfl) h
def f_X11_spread_j103 (x0 : Int32) (x1 : Int32) (x2 : Int32) (x4 : Int32) (x5 : Int32) (x6 : Int32) (x7 : Int32) : Option ((Int32 × Int32) ⊕ (Int32)) :=
  if x1 ≤ (x6 + 1) then f_X11_spread_j133 x0 x1 x2 x4 x5 x6 x7 else (f_X11_at x0 x7 (x6 + 1)).bind fun q13 => (f_X11_has x4 q13).bind fun q14 => if q14 = 0 then f_X11_spread_j133 x0 x1 x2 x4 x5 x6 x7 else f_X11_spread_j129 x0 x1 x2 x4 x5 x6 x7
set_option maxHeartbeats 4000000 in
set_option maxRecDepth 100000 in
theorem w_X11_spread_j103 (X : Cx g RX11 cX11_spread 9 (some .int) p s m args meth c) (x0 : Int32) (x1 : Int32) (x2 : Int32) (x4 : Int32) (x5 : Int32) (x6 : Int32) (x7 : Int32) (σ : St) {w : (Int32 × Int32) ⊕ (Int32)} (KB : ∀ (v0_ : Int32) (v1_ : Int32), w = .inl (v0_, v1_) → ∀ (H : Heap) (locs : List Loc) (ls : Array Slot), Wd g s σ H locs → lv_has ls 9 [(0, .int (x0)), (1, .int (x1)), (2, .int (x2)), (4, .int (v0_)), (5, .int (x5)), (6, .int (x6)), (7, .int (v1_))] → W p l e (rmm 1 22) s m args below meth c H locs 0 0 Q (F0 m 25 ls [])) (KX0 : ∀ (v : Int32), w = .inr v → ∀ (H : Heap) (locs : List Loc) (ls : Array Slot), Wd g s σ H locs → lv_has ls 9 [(0, .int (x0)), (1, .int (x1)), (2, .int (x2)), (4, .int (v)), (5, .int (x5)), (6, .int (x6))] → W p l e (rmm 1 22) s m args below meth c H locs 0 0 Q (F0 m 181 ls [])) {H : Heap} {locs : List Loc} {ls : Array Slot} (Y : Wd g s σ H locs) (hl : lv_has ls 9 [(0, .int (x0)), (1, .int (x1)), (2, .int (x2)), (4, .int (x4)), (5, .int (x5)), (6, .int (x6)), (7, .int (x7))]) (h : f_X11_spread_j103 x0 x1 x2 x4 x5 x6 x7 = some w) : W p l e (rmm 1 22) s m args below meth c H locs 0 0 Q (F0 m 103 ls []) := by
  unfold f_X11_spread_j103 at h
  refine lv_iload X.1 X.2.1 (dk T_X11_spread 53 rfl) (lv_at hl 5 rfl) ?_
  refine lv_iconst (v := 1) X.1 X.2.1 (dk T_X11_spread 54 rfl) ic_1 ?_
  refine lv_iadd X.1 X.2.1 (dk T_X11_spread 55 rfl) ?_
  refine lv_iload_n X.1 X.2.1 (dk T_X11_spread 56 rfl) rfl (lv_at hl 1 rfl) ?_
  refine lv_icmp_ge (tgt := 133) X.1 X.2.1 (dk T_X11_spread 57 rfl) rfl (fun c7 => ?_) (fun c7 => ?_)
  · replace h := ipos c7 h
    exact w_X11_spread_j133 X x0 x1 x2 x4 x5 x6 x7 σ KB KX0 Y (lv_sub hl [0, 1, 2, 3, 4, 5, 6] rfl) h
  · replace h := ineg c7 h
    refine lv_iload X.1 X.2.1 (dk T_X11_spread 58 rfl) (lv_at hl 3 rfl) ?_
    refine lv_iload_n X.1 X.2.1 (dk T_X11_spread 59 rfl) rfl (lv_at hl 0 rfl) ?_
    refine lv_iload X.1 X.2.1 (dk T_X11_spread 60 rfl) (lv_at hl 6 rfl) ?_
    refine lv_iload X.1 X.2.1 (dk T_X11_spread 61 rfl) (lv_at hl 5 rfl) ?_
    refine lv_iconst (v := 1) X.1 X.2.1 (dk T_X11_spread 62 rfl) ic_1 ?_
    refine lv_iadd X.1 X.2.1 (dk T_X11_spread 63 rfl) ?_
    obtain ⟨q13, hq13, h⟩ := bs h
    refine gsI (rest := [.int (x4)]) X Y (c_X11_at x0 x7 (x6 + 1) σ hq13) cb_X11_102 hl.1 rfl rfl (Nat.le_of_ble_eq_true rfl) ⟨Nat.le_of_ble_eq_true rfl, Nat.le_of_ble_eq_true rfl⟩ (dk T_X11_spread 64 rfl) (fun H locs Y => ?_)
    obtain ⟨q14, hq14, h⟩ := bs h
    refine gsI (rest := []) X Y (c_X11_has x4 q13 σ hq14) cb_X11_105 hl.1 rfl rfl (Nat.le_of_ble_eq_true rfl) ⟨Nat.le_of_ble_eq_true rfl, Nat.le_of_ble_eq_true rfl⟩ (dk T_X11_spread 65 rfl) (fun H locs Y => ?_)
    refine lv_if_eq (tgt := 133) X.1 X.2.1 (dk T_X11_spread 66 rfl) rfl (fun c15 => ?_) (fun c15 => ?_)
    · replace h := ipos c15 h
      exact w_X11_spread_j133 X x0 x1 x2 x4 x5 x6 x7 σ KB KX0 Y (lv_sub hl [0, 1, 2, 3, 4, 5, 6] rfl) h
    · replace h := ineg c15 h
      exact w_X11_spread_j129 X x0 x1 x2 x4 x5 x6 x7 σ KB KX0 Y (lv_sub hl [0, 1, 2, 3, 4, 5, 6] rfl) h
def f_X11_spread_j80 (x0 : Int32) (x1 : Int32) (x2 : Int32) (x4 : Int32) (x5 : Int32) (x6 : Int32) (x7 : Int32) : Option ((Int32 × Int32) ⊕ (Int32)) :=
  if x6 ≤ 0 then f_X11_spread_j103 x0 x1 x2 x4 x5 x6 x7 else (f_X11_at x0 x7 (x6 - 1)).bind fun q16 => (f_X11_has x4 q16).bind fun q17 => if q17 = 0 then f_X11_spread_j103 x0 x1 x2 x4 x5 x6 x7 else f_X11_spread_j129 x0 x1 x2 x4 x5 x6 x7
set_option maxHeartbeats 4000000 in
set_option maxRecDepth 100000 in
theorem w_X11_spread_j80 (X : Cx g RX11 cX11_spread 9 (some .int) p s m args meth c) (x0 : Int32) (x1 : Int32) (x2 : Int32) (x4 : Int32) (x5 : Int32) (x6 : Int32) (x7 : Int32) (σ : St) {w : (Int32 × Int32) ⊕ (Int32)} (KB : ∀ (v0_ : Int32) (v1_ : Int32), w = .inl (v0_, v1_) → ∀ (H : Heap) (locs : List Loc) (ls : Array Slot), Wd g s σ H locs → lv_has ls 9 [(0, .int (x0)), (1, .int (x1)), (2, .int (x2)), (4, .int (v0_)), (5, .int (x5)), (6, .int (x6)), (7, .int (v1_))] → W p l e (rmm 1 22) s m args below meth c H locs 0 0 Q (F0 m 25 ls [])) (KX0 : ∀ (v : Int32), w = .inr v → ∀ (H : Heap) (locs : List Loc) (ls : Array Slot), Wd g s σ H locs → lv_has ls 9 [(0, .int (x0)), (1, .int (x1)), (2, .int (x2)), (4, .int (v)), (5, .int (x5)), (6, .int (x6))] → W p l e (rmm 1 22) s m args below meth c H locs 0 0 Q (F0 m 181 ls [])) {H : Heap} {locs : List Loc} {ls : Array Slot} (Y : Wd g s σ H locs) (hl : lv_has ls 9 [(0, .int (x0)), (1, .int (x1)), (2, .int (x2)), (4, .int (x4)), (5, .int (x5)), (6, .int (x6)), (7, .int (x7))]) (h : f_X11_spread_j80 x0 x1 x2 x4 x5 x6 x7 = some w) : W p l e (rmm 1 22) s m args below meth c H locs 0 0 Q (F0 m 80 ls []) := by
  unfold f_X11_spread_j80 at h
  refine lv_iload X.1 X.2.1 (dk T_X11_spread 42 rfl) (lv_at hl 5 rfl) ?_
  refine lv_if_le (tgt := 103) X.1 X.2.1 (dk T_X11_spread 43 rfl) rfl (fun c6 => ?_) (fun c6 => ?_)
  · replace h := ipos c6 h
    exact w_X11_spread_j103 X x0 x1 x2 x4 x5 x6 x7 σ KB KX0 Y (lv_sub hl [0, 1, 2, 3, 4, 5, 6] rfl) h
  · replace h := ineg c6 h
    refine lv_iload X.1 X.2.1 (dk T_X11_spread 44 rfl) (lv_at hl 3 rfl) ?_
    refine lv_iload_n X.1 X.2.1 (dk T_X11_spread 45 rfl) rfl (lv_at hl 0 rfl) ?_
    refine lv_iload X.1 X.2.1 (dk T_X11_spread 46 rfl) (lv_at hl 6 rfl) ?_
    refine lv_iload X.1 X.2.1 (dk T_X11_spread 47 rfl) (lv_at hl 5 rfl) ?_
    refine lv_iconst (v := 1) X.1 X.2.1 (dk T_X11_spread 48 rfl) ic_1 ?_
    refine lv_isub X.1 X.2.1 (dk T_X11_spread 49 rfl) ?_
    obtain ⟨q16, hq16, h⟩ := bs h
    refine gsI (rest := [.int (x4)]) X Y (c_X11_at x0 x7 (x6 - 1) σ hq16) cb_X11_102 hl.1 rfl rfl (Nat.le_of_ble_eq_true rfl) ⟨Nat.le_of_ble_eq_true rfl, Nat.le_of_ble_eq_true rfl⟩ (dk T_X11_spread 50 rfl) (fun H locs Y => ?_)
    obtain ⟨q17, hq17, h⟩ := bs h
    refine gsI (rest := []) X Y (c_X11_has x4 q16 σ hq17) cb_X11_105 hl.1 rfl rfl (Nat.le_of_ble_eq_true rfl) ⟨Nat.le_of_ble_eq_true rfl, Nat.le_of_ble_eq_true rfl⟩ (dk T_X11_spread 51 rfl) (fun H locs Y => ?_)
    refine lv_if_ne (tgt := 129) X.1 X.2.1 (dk T_X11_spread 52 rfl) rfl (fun c18 => ?_) (fun c18 => ?_)
    · replace h := ineg c18 h
      exact w_X11_spread_j129 X x0 x1 x2 x4 x5 x6 x7 σ KB KX0 Y (lv_sub hl [0, 1, 2, 3, 4, 5, 6] rfl) h
    · replace h := ipos c18 h
      exact w_X11_spread_j103 X x0 x1 x2 x4 x5 x6 x7 σ KB KX0 Y (lv_sub hl [0, 1, 2, 3, 4, 5, 6] rfl) h
def f_X11_spread_j54 (x0 : Int32) (x1 : Int32) (x2 : Int32) (x4 : Int32) (x5 : Int32) (x6 : Int32) (x7 : Int32) : Option ((Int32 × Int32) ⊕ (Int32)) :=
  if x0 ≤ (x7 + 1) then f_X11_spread_j80 x0 x1 x2 x4 x5 x6 x7 else (f_X11_at x0 (x7 + 1) x6).bind fun q19 => (f_X11_has x4 q19).bind fun q20 => if q20 = 0 then f_X11_spread_j80 x0 x1 x2 x4 x5 x6 x7 else f_X11_spread_j129 x0 x1 x2 x4 x5 x6 x7
set_option maxHeartbeats 4000000 in
set_option maxRecDepth 100000 in
theorem w_X11_spread_j54 (X : Cx g RX11 cX11_spread 9 (some .int) p s m args meth c) (x0 : Int32) (x1 : Int32) (x2 : Int32) (x4 : Int32) (x5 : Int32) (x6 : Int32) (x7 : Int32) (σ : St) {w : (Int32 × Int32) ⊕ (Int32)} (KB : ∀ (v0_ : Int32) (v1_ : Int32), w = .inl (v0_, v1_) → ∀ (H : Heap) (locs : List Loc) (ls : Array Slot), Wd g s σ H locs → lv_has ls 9 [(0, .int (x0)), (1, .int (x1)), (2, .int (x2)), (4, .int (v0_)), (5, .int (x5)), (6, .int (x6)), (7, .int (v1_))] → W p l e (rmm 1 22) s m args below meth c H locs 0 0 Q (F0 m 25 ls [])) (KX0 : ∀ (v : Int32), w = .inr v → ∀ (H : Heap) (locs : List Loc) (ls : Array Slot), Wd g s σ H locs → lv_has ls 9 [(0, .int (x0)), (1, .int (x1)), (2, .int (x2)), (4, .int (v)), (5, .int (x5)), (6, .int (x6))] → W p l e (rmm 1 22) s m args below meth c H locs 0 0 Q (F0 m 181 ls [])) {H : Heap} {locs : List Loc} {ls : Array Slot} (Y : Wd g s σ H locs) (hl : lv_has ls 9 [(0, .int (x0)), (1, .int (x1)), (2, .int (x2)), (4, .int (x4)), (5, .int (x5)), (6, .int (x6)), (7, .int (x7))]) (h : f_X11_spread_j54 x0 x1 x2 x4 x5 x6 x7 = some w) : W p l e (rmm 1 22) s m args below meth c H locs 0 0 Q (F0 m 54 ls []) := by
  unfold f_X11_spread_j54 at h
  refine lv_iload X.1 X.2.1 (dk T_X11_spread 28 rfl) (lv_at hl 6 rfl) ?_
  refine lv_iconst (v := 1) X.1 X.2.1 (dk T_X11_spread 29 rfl) ic_1 ?_
  refine lv_iadd X.1 X.2.1 (dk T_X11_spread 30 rfl) ?_
  refine lv_iload_n X.1 X.2.1 (dk T_X11_spread 31 rfl) rfl (lv_at hl 0 rfl) ?_
  refine lv_icmp_ge (tgt := 80) X.1 X.2.1 (dk T_X11_spread 32 rfl) rfl (fun c5 => ?_) (fun c5 => ?_)
  · replace h := ipos c5 h
    exact w_X11_spread_j80 X x0 x1 x2 x4 x5 x6 x7 σ KB KX0 Y (lv_sub hl [0, 1, 2, 3, 4, 5, 6] rfl) h
  · replace h := ineg c5 h
    refine lv_iload X.1 X.2.1 (dk T_X11_spread 33 rfl) (lv_at hl 3 rfl) ?_
    refine lv_iload_n X.1 X.2.1 (dk T_X11_spread 34 rfl) rfl (lv_at hl 0 rfl) ?_
    refine lv_iload X.1 X.2.1 (dk T_X11_spread 35 rfl) (lv_at hl 6 rfl) ?_
    refine lv_iconst (v := 1) X.1 X.2.1 (dk T_X11_spread 36 rfl) ic_1 ?_
    refine lv_iadd X.1 X.2.1 (dk T_X11_spread 37 rfl) ?_
    refine lv_iload X.1 X.2.1 (dk T_X11_spread 38 rfl) (lv_at hl 5 rfl) ?_
    obtain ⟨q19, hq19, h⟩ := bs h
    refine gsI (rest := [.int (x4)]) X Y (c_X11_at x0 (x7 + 1) x6 σ hq19) cb_X11_102 hl.1 rfl rfl (Nat.le_of_ble_eq_true rfl) ⟨Nat.le_of_ble_eq_true rfl, Nat.le_of_ble_eq_true rfl⟩ (dk T_X11_spread 39 rfl) (fun H locs Y => ?_)
    obtain ⟨q20, hq20, h⟩ := bs h
    refine gsI (rest := []) X Y (c_X11_has x4 q19 σ hq20) cb_X11_105 hl.1 rfl rfl (Nat.le_of_ble_eq_true rfl) ⟨Nat.le_of_ble_eq_true rfl, Nat.le_of_ble_eq_true rfl⟩ (dk T_X11_spread 40 rfl) (fun H locs Y => ?_)
    refine lv_if_ne (tgt := 129) X.1 X.2.1 (dk T_X11_spread 41 rfl) rfl (fun c21 => ?_) (fun c21 => ?_)
    · replace h := ineg c21 h
      exact w_X11_spread_j129 X x0 x1 x2 x4 x5 x6 x7 σ KB KX0 Y (lv_sub hl [0, 1, 2, 3, 4, 5, 6] rfl) h
    · replace h := ipos c21 h
      exact w_X11_spread_j80 X x0 x1 x2 x4 x5 x6 x7 σ KB KX0 Y (lv_sub hl [0, 1, 2, 3, 4, 5, 6] rfl) h
def f_X11_spread_l25 (x0 : Int32) (x1 : Int32) (x2 : Int32) (x5 : Int32) (x6 : Int32) (z : Int32 × Int32) : Option ((Int32 × Int32) ⊕ (Int32)) :=
  if x0 ≤ z.2 then some (.inr z.1) else if z.2 ≤ 0 then f_X11_spread_j54 x0 x1 x2 z.1 x5 x6 z.2 else (f_X11_at x0 (z.2 - 1) x6).bind fun q22 => (f_X11_has z.1 q22).bind fun q23 => if q23 = 0 then f_X11_spread_j54 x0 x1 x2 z.1 x5 x6 z.2 else f_X11_spread_j129 x0 x1 x2 z.1 x5 x6 z.2
set_option maxHeartbeats 4000000 in
set_option maxRecDepth 100000 in
theorem w_X11_spread_l25 (X : Cx g RX11 cX11_spread 9 (some .int) p s m args meth c) (x0 : Int32) (x1 : Int32) (x2 : Int32) (x5 : Int32) (x6 : Int32) (σ : St) {r : Int32} (KX0 : ∀ (v : Int32), r = v → ∀ (H : Heap) (locs : List Loc) (ls : Array Slot), Wd g s σ H locs → lv_has ls 9 [(0, .int (x0)), (1, .int (x1)), (2, .int (x2)), (4, .int (v)), (5, .int (x5)), (6, .int (x6))] → W p l e (rmm 1 22) s m args below meth c H locs 0 0 Q (F0 m 181 ls [])) : ∀ (n : Nat) (z : Int32 × Int32) {H : Heap} {locs : List Loc} {ls : Array Slot}, Wd g s σ H locs → lv_has ls 9 [(0, .int (x0)), (1, .int (x1)), (2, .int (x2)), (4, .int (z.1)), (5, .int (x5)), (6, .int (x6)), (7, .int (z.2))] → lp (f_X11_spread_l25 x0 x1 x2 x5 x6) n z = some r → W p l e (rmm 1 22) s m args below meth c H locs 0 0 Q (F0 m 25 ls []) := by
  intro n
  induction n with
  | zero => intro z H locs ls Y hl h; cases h
  | succ n ih =>
    intro z H locs ls Y hl h
    obtain ⟨w, h, hw⟩ := lps h
    have KB : ∀ (v0_ : Int32) (v1_ : Int32), w = .inl (v0_, v1_) → ∀ (H : Heap) (locs : List Loc) (ls : Array Slot), Wd g s σ H locs → lv_has ls 9 [(0, .int (x0)), (1, .int (x1)), (2, .int (x2)), (4, .int (v0_)), (5, .int (x5)), (6, .int (x6)), (7, .int (v1_))] → W p l e (rmm 1 22) s m args below meth c H locs 0 0 Q (F0 m 25 ls []) := fun v0_ v1_ e H locs ls Y hl => ih (v0_, v1_) Y hl (lpl hw e)
    have KX0 := fun (v : Int32) (e : w = .inr v) => KX0 v (lpr hw e)
    unfold f_X11_spread_l25 at h
    refine lv_iload X.1 X.2.1 (dk T_X11_spread 14 rfl) (lv_at hl 6 rfl) ?_
    refine lv_iload_n X.1 X.2.1 (dk T_X11_spread 15 rfl) rfl (lv_at hl 0 rfl) ?_
    refine lv_icmp_ge (tgt := 181) X.1 X.2.1 (dk T_X11_spread 16 rfl) rfl (fun c3 => ?_) (fun c3 => ?_)
    · replace h := ipos c3 h
      exact KX0 z.1 (Option.some.inj h).symm _ _ _ Y (lv_sub hl [0, 1, 2, 3, 4, 5] rfl)
    · replace h := ineg c3 h
      refine lv_iload X.1 X.2.1 (dk T_X11_spread 17 rfl) (lv_at hl 6 rfl) ?_
      refine lv_if_le (tgt := 54) X.1 X.2.1 (dk T_X11_spread 18 rfl) rfl (fun c4 => ?_) (fun c4 => ?_)
      · replace h := ipos c4 h
        exact w_X11_spread_j54 X x0 x1 x2 z.1 x5 x6 z.2 σ KB KX0 Y (lv_sub hl [0, 1, 2, 3, 4, 5, 6] rfl) h
      · replace h := ineg c4 h
        refine lv_iload X.1 X.2.1 (dk T_X11_spread 19 rfl) (lv_at hl 3 rfl) ?_
        refine lv_iload_n X.1 X.2.1 (dk T_X11_spread 20 rfl) rfl (lv_at hl 0 rfl) ?_
        refine lv_iload X.1 X.2.1 (dk T_X11_spread 21 rfl) (lv_at hl 6 rfl) ?_
        refine lv_iconst (v := 1) X.1 X.2.1 (dk T_X11_spread 22 rfl) ic_1 ?_
        refine lv_isub X.1 X.2.1 (dk T_X11_spread 23 rfl) ?_
        refine lv_iload X.1 X.2.1 (dk T_X11_spread 24 rfl) (lv_at hl 5 rfl) ?_
        obtain ⟨q22, hq22, h⟩ := bs h
        refine gsI (rest := [.int (z.1)]) X Y (c_X11_at x0 (z.2 - 1) x6 σ hq22) cb_X11_102 hl.1 rfl rfl (Nat.le_of_ble_eq_true rfl) ⟨Nat.le_of_ble_eq_true rfl, Nat.le_of_ble_eq_true rfl⟩ (dk T_X11_spread 25 rfl) (fun H locs Y => ?_)
        obtain ⟨q23, hq23, h⟩ := bs h
        refine gsI (rest := []) X Y (c_X11_has z.1 q22 σ hq23) cb_X11_105 hl.1 rfl rfl (Nat.le_of_ble_eq_true rfl) ⟨Nat.le_of_ble_eq_true rfl, Nat.le_of_ble_eq_true rfl⟩ (dk T_X11_spread 26 rfl) (fun H locs Y => ?_)
        refine lv_if_ne (tgt := 129) X.1 X.2.1 (dk T_X11_spread 27 rfl) rfl (fun c24 => ?_) (fun c24 => ?_)
        · replace h := ineg c24 h
          exact w_X11_spread_j129 X x0 x1 x2 z.1 x5 x6 z.2 σ KB KX0 Y (lv_sub hl [0, 1, 2, 3, 4, 5, 6] rfl) h
        · replace h := ipos c24 h
          exact w_X11_spread_j54 X x0 x1 x2 z.1 x5 x6 z.2 σ KB KX0 Y (lv_sub hl [0, 1, 2, 3, 4, 5, 6] rfl) h
def f_X11_spread_l16 (x0 : Int32) (x1 : Int32) (x2 : Int32) (x5 : Int32) (z : Int32 × Int32) : Option ((Int32 × Int32) ⊕ (Int32)) :=
  if x1 ≤ z.2 then some (.inr z.1) else (lp (f_X11_spread_l25 x0 x1 x2 x5 z.2) FU (z.1, 0)).bind fun q25 => some (.inl (q25, z.2 + 1))
set_option maxHeartbeats 4000000 in
set_option maxRecDepth 100000 in
theorem w_X11_spread_l16 (X : Cx g RX11 cX11_spread 9 (some .int) p s m args meth c) (x0 : Int32) (x1 : Int32) (x2 : Int32) (x5 : Int32) (σ : St) {r : Int32} (KX0 : ∀ (v : Int32), r = v → ∀ (H : Heap) (locs : List Loc) (ls : Array Slot), Wd g s σ H locs → lv_has ls 9 [(0, .int (x0)), (1, .int (x1)), (2, .int (x2)), (4, .int (v)), (5, .int (x5))] → W p l e (rmm 1 22) s m args below meth c H locs 0 0 Q (F0 m 187 ls [])) : ∀ (n : Nat) (z : Int32 × Int32) {H : Heap} {locs : List Loc} {ls : Array Slot}, Wd g s σ H locs → lv_has ls 9 [(0, .int (x0)), (1, .int (x1)), (2, .int (x2)), (4, .int (z.1)), (5, .int (x5)), (6, .int (z.2))] → lp (f_X11_spread_l16 x0 x1 x2 x5) n z = some r → W p l e (rmm 1 22) s m args below meth c H locs 0 0 Q (F0 m 16 ls []) := by
  intro n
  induction n with
  | zero => intro z H locs ls Y hl h; cases h
  | succ n ih =>
    intro z H locs ls Y hl h
    obtain ⟨w, h, hw⟩ := lps h
    have KB : ∀ (v0_ : Int32) (v1_ : Int32), w = .inl (v0_, v1_) → ∀ (H : Heap) (locs : List Loc) (ls : Array Slot), Wd g s σ H locs → lv_has ls 9 [(0, .int (x0)), (1, .int (x1)), (2, .int (x2)), (4, .int (v0_)), (5, .int (x5)), (6, .int (v1_))] → W p l e (rmm 1 22) s m args below meth c H locs 0 0 Q (F0 m 16 ls []) := fun v0_ v1_ e H locs ls Y hl => ih (v0_, v1_) Y hl (lpl hw e)
    have KX0 := fun (v : Int32) (e : w = .inr v) => KX0 v (lpr hw e)
    unfold f_X11_spread_l16 at h
    refine lv_iload X.1 X.2.1 (dk T_X11_spread 9 rfl) (lv_at hl 5 rfl) ?_
    refine lv_iload_n X.1 X.2.1 (dk T_X11_spread 10 rfl) rfl (lv_at hl 1 rfl) ?_
    refine lv_icmp_ge (tgt := 187) X.1 X.2.1 (dk T_X11_spread 11 rfl) rfl (fun c2 => ?_) (fun c2 => ?_)
    · replace h := ipos c2 h
      exact KX0 z.1 (Option.some.inj h).symm _ _ _ Y (lv_sub hl [0, 1, 2, 3, 4] rfl)
    · replace h := ineg c2 h
      refine lv_iconst (v := 0) X.1 X.2.1 (dk T_X11_spread 12 rfl) ic_0 ?_
      refine lv_istore (lv' := [(7, .int (0)), (0, .int (x0)), (1, .int (x1)), (2, .int (x2)), (4, .int (z.1)), (5, .int (x5)), (6, .int (z.2))]) X.1 X.2.1 (dk T_X11_spread 13 rfl) hl (Nat.le_of_ble_eq_true rfl) rfl (fun ls hl => ?_)
      obtain ⟨q25, hq25, h⟩ := bs h
      refine w_X11_spread_l25 X x0 x1 x2 x5 z.2 σ (fun v e H locs ls Y hl => ?_) FU (z.1, 0) Y (lv_sub hl [1, 2, 3, 4, 5, 6, 0] rfl) hq25
      · obtain rfl := e
        refine lv_iinc (v := z.2 + 1) (lv' := [(6, .int (z.2 + 1)), (0, .int (x0)), (1, .int (x1)), (2, .int (x2)), (4, .int (q25)), (5, .int (x5))]) X.1 X.2.1 (dk T_X11_spread 93 rfl) hl (k := 5) rfl (icx ic_1) (Nat.le_of_ble_eq_true rfl) rfl (fun ls hl => ?_)
        refine lv_goto (tgt := 16) X.1 X.2.1 (dk T_X11_spread 94 rfl) rfl ?_
        exact KB q25 (z.2 + 1) (Option.some.inj h).symm _ _ _ Y (lv_sub hl [1, 2, 3, 4, 5, 0] rfl)
def f_X11_spread_l6 (x0 : Int32) (x1 : Int32) (x2 : Int32) (z : Int32 × Int32) : Option ((Int32 × Int32) ⊕ (Int32)) :=
  if 16 ≤ z.2 then some (.inr z.1) else (lp (f_X11_spread_l16 x0 x1 x2 z.2) FU (z.1, 0)).bind fun q26 => some (.inl (q26, z.2 + 1))
set_option maxHeartbeats 4000000 in
set_option maxRecDepth 100000 in
theorem w_X11_spread_l6 (X : Cx g RX11 cX11_spread 9 (some .int) p s m args meth c) (x0 : Int32) (x1 : Int32) (x2 : Int32) (σ : St) {r : Int32} (KX0 : ∀ (v : Int32), r = v → ∀ (H : Heap) (locs : List Loc) (ls : Array Slot), Wd g s σ H locs → lv_has ls 9 [(4, .int (v))] → W p l e (rmm 1 22) s m args below meth c H locs 0 0 Q (F0 m 193 ls [])) : ∀ (n : Nat) (z : Int32 × Int32) {H : Heap} {locs : List Loc} {ls : Array Slot}, Wd g s σ H locs → lv_has ls 9 [(0, .int (x0)), (1, .int (x1)), (2, .int (x2)), (4, .int (z.1)), (5, .int (z.2))] → lp (f_X11_spread_l6 x0 x1 x2) n z = some r → W p l e (rmm 1 22) s m args below meth c H locs 0 0 Q (F0 m 6 ls []) := by
  intro n
  induction n with
  | zero => intro z H locs ls Y hl h; cases h
  | succ n ih =>
    intro z H locs ls Y hl h
    obtain ⟨w, h, hw⟩ := lps h
    have KB : ∀ (v0_ : Int32) (v1_ : Int32), w = .inl (v0_, v1_) → ∀ (H : Heap) (locs : List Loc) (ls : Array Slot), Wd g s σ H locs → lv_has ls 9 [(0, .int (x0)), (1, .int (x1)), (2, .int (x2)), (4, .int (v0_)), (5, .int (v1_))] → W p l e (rmm 1 22) s m args below meth c H locs 0 0 Q (F0 m 6 ls []) := fun v0_ v1_ e H locs ls Y hl => ih (v0_, v1_) Y hl (lpl hw e)
    have KX0 := fun (v : Int32) (e : w = .inr v) => KX0 v (lpr hw e)
    unfold f_X11_spread_l6 at h
    refine lv_iload X.1 X.2.1 (dk T_X11_spread 4 rfl) (lv_at hl 4 rfl) ?_
    refine lv_bipush (v := 16) X.1 X.2.1 (dk T_X11_spread 5 rfl) bp_16 ?_
    refine lv_icmp_ge (tgt := 193) X.1 X.2.1 (dk T_X11_spread 6 rfl) rfl (fun c1 => ?_) (fun c1 => ?_)
    · replace h := ipos c1 h
      exact KX0 z.1 (Option.some.inj h).symm _ _ _ Y (lv_sub hl [3] rfl)
    · replace h := ineg c1 h
      refine lv_iconst (v := 0) X.1 X.2.1 (dk T_X11_spread 7 rfl) ic_0 ?_
      refine lv_istore (lv' := [(6, .int (0)), (0, .int (x0)), (1, .int (x1)), (2, .int (x2)), (4, .int (z.1)), (5, .int (z.2))]) X.1 X.2.1 (dk T_X11_spread 8 rfl) hl (Nat.le_of_ble_eq_true rfl) rfl (fun ls hl => ?_)
      obtain ⟨q26, hq26, h⟩ := bs h
      refine w_X11_spread_l16 X x0 x1 x2 z.2 σ (fun v e H locs ls Y hl => ?_) FU (z.1, 0) Y (lv_sub hl [1, 2, 3, 4, 5, 0] rfl) hq26
      · obtain rfl := e
        refine lv_iinc (v := z.2 + 1) (lv' := [(5, .int (z.2 + 1)), (0, .int (x0)), (1, .int (x1)), (2, .int (x2)), (4, .int (q26))]) X.1 X.2.1 (dk T_X11_spread 95 rfl) hl (k := 4) rfl (icx ic_1) (Nat.le_of_ble_eq_true rfl) rfl (fun ls hl => ?_)
        refine lv_goto (tgt := 6) X.1 X.2.1 (dk T_X11_spread 96 rfl) rfl ?_
        exact KB q26 (z.2 + 1) (Option.some.inj h).symm _ _ _ Y (lv_sub hl [1, 2, 3, 4, 0] rfl)
def f_X11_spread_0 (x0 : Int32) (x1 : Int32) (x2 : Int32) (x3 : Int32) : Option (Int32) :=
  (lp (f_X11_spread_l6 x0 x1 x2) FU (x3, 0)).bind fun q27 => some q27
set_option maxHeartbeats 4000000 in
set_option maxRecDepth 100000 in
theorem w_X11_spread_0 (X : Cx g RX11 cX11_spread 9 (some .int) p s m args meth c) (x0 : Int32) (x1 : Int32) (x2 : Int32) (x3 : Int32) (σ : St) {w : Int32} (KR : ∀ (H : Heap) (locs : List Loc) (ls : Array Slot) (pc : Nat), Wd g s σ H locs → decode cX11_spread pc = .ok (.ireturn, 1) → W p l e (rmm 1 22) s m args below meth c H locs 0 0 Q (F0 m pc ls [.int (w)])) {H : Heap} {locs : List Loc} {ls : Array Slot} (Y : Wd g s σ H locs) (hl : lv_has ls 9 [(0, .int (x0)), (1, .int (x1)), (2, .int (x2)), (3, .int (x3))]) (h : f_X11_spread_0 x0 x1 x2 x3 = some w) : W p l e (rmm 1 22) s m args below meth c H locs 0 0 Q (F0 m 0 ls []) := by
  unfold f_X11_spread_0 at h
  refine lv_iload_n X.1 X.2.1 (dk T_X11_spread 0 rfl) rfl (lv_at hl 3 rfl) ?_
  refine lv_istore (lv' := [(4, .int (x3)), (0, .int (x0)), (1, .int (x1)), (2, .int (x2)), (3, .int (x3))]) X.1 X.2.1 (dk T_X11_spread 1 rfl) hl (Nat.le_of_ble_eq_true rfl) rfl (fun ls hl => ?_)
  refine lv_iconst (v := 0) X.1 X.2.1 (dk T_X11_spread 2 rfl) ic_0 ?_
  refine lv_istore (lv' := [(5, .int (0)), (4, .int (x3)), (0, .int (x0)), (1, .int (x1)), (2, .int (x2)), (3, .int (x3))]) X.1 X.2.1 (dk T_X11_spread 3 rfl) hl (Nat.le_of_ble_eq_true rfl) rfl (fun ls hl => ?_)
  obtain ⟨q27, hq27, h⟩ := bs h
  refine w_X11_spread_l6 X x0 x1 x2 σ (fun v e H locs ls Y hl => ?_) FU (x3, 0) Y (lv_sub hl [2, 3, 4, 1, 0] rfl) hq27
  · obtain rfl := e
    refine lv_iload X.1 X.2.1 (dk T_X11_spread 97 rfl) (lv_at hl 0 rfl) ?_
    obtain rfl := Option.some.inj h
    exact KR _ _ _ _ Y (dk T_X11_spread 98 rfl)
def f_X11_spread (x0 : Int32) (x1 : Int32) (x2 : Int32) (x3 : Int32) : Option (Int32) := f_X11_spread_0 x0 x1 x2 x3
set_option maxHeartbeats 4000000 in
set_option maxRecDepth 100000 in
theorem c_X11_spread {l : Launch} {g : Geo} (x0 : Int32) (x1 : Int32) (x2 : Int32) (x3 : Int32) (σ : St) {w : Int32} (h : f_X11_spread x0 x1 x2 x3 = some w) : CtI l yX11_spread cX11_spread 9 (some .int) (rmm 1 22) g [.int (x0), .int (x1), .int (x2), .int (x3)] σ w σ := enI .int (by decide) rfl rfl (Nat.le_of_ble_eq_true rfl) (fun p e s m args below meth c Q X Y ls hl KR => w_X11_spread_0 X x0 x1 x2 x3 σ KR Y hl h)
def I_X11_isField : List (Nat × Instr × Nat) := [(0, .iload_n 0, 1), (1, .iload_n 1, 1), (2, .iload_n 2, 1), (3, .invokestatic 109, 3), (6, .ifCond .eq 21, 3), (9, .iload_n 0, 1), (10, .iload_n 1, 1), (11, .iload_n 2, 1), (12, .iload_n 2, 1), (13, .invokestatic 112, 3), (16, .invokestatic 115, 3), (19, .iload_n 2, 1), (20, .if_icmp .ne 7, 3), (23, .iconst 1, 1), (24, .goto 4, 3), (27, .iconst 0, 1), (28, .ireturn, 1)]
set_option maxRecDepth 100000 in
theorem T_X11_isField : ∀ q ∈ I_X11_isField, decode cX11_isField q.1 = .ok (q.2.1, q.2.2) := by decide +kernel
def f_X11_isField_0 (x0 : Int32) (x1 : Int32) (x2 : Int32) : Option (Int32) :=
  (f_X11_isFull x0 x1 x2).bind fun q1 => if q1 = 0 then some 0 else (f_X11_lowest x2).bind fun q3 => (f_X11_spread x0 x1 x2 q3).bind fun q4 => if q4 = x2 then some 1 else some 0
set_option maxHeartbeats 4000000 in
set_option maxRecDepth 100000 in
theorem w_X11_isField_0 (X : Cx g RX11 cX11_isField 3 (some .boolean) p s m args meth c) (x0 : Int32) (x1 : Int32) (x2 : Int32) (σ : St) {w : Int32} (KR : ∀ (H : Heap) (locs : List Loc) (ls : Array Slot) (pc : Nat), Wd g s σ H locs → decode cX11_isField pc = .ok (.ireturn, 1) → W p l e (rmm 2 50) s m args below meth c H locs 0 0 Q (F0 m pc ls [.int (w)])) {H : Heap} {locs : List Loc} {ls : Array Slot} (Y : Wd g s σ H locs) (hl : lv_has ls 3 [(0, .int (x0)), (1, .int (x1)), (2, .int (x2))]) (h : f_X11_isField_0 x0 x1 x2 = some w) : W p l e (rmm 2 50) s m args below meth c H locs 0 0 Q (F0 m 0 ls []) := by
  unfold f_X11_isField_0 at h
  refine lv_iload_n X.1 X.2.1 (dk T_X11_isField 0 rfl) rfl (lv_at hl 0 rfl) ?_
  refine lv_iload_n X.1 X.2.1 (dk T_X11_isField 1 rfl) rfl (lv_at hl 1 rfl) ?_
  refine lv_iload_n X.1 X.2.1 (dk T_X11_isField 2 rfl) rfl (lv_at hl 2 rfl) ?_
  obtain ⟨q1, hq1, h⟩ := bs h
  refine gsI (rest := []) X Y (c_X11_isFull x0 x1 x2 σ hq1) cb_X11_109 hl.1 rfl rfl (Nat.le_of_ble_eq_true rfl) ⟨Nat.le_of_ble_eq_true rfl, Nat.le_of_ble_eq_true rfl⟩ (dk T_X11_isField 3 rfl) (fun H locs Y => ?_)
  refine lv_if_eq (tgt := 27) X.1 X.2.1 (dk T_X11_isField 4 rfl) rfl (fun c2 => ?_) (fun c2 => ?_)
  · replace h := ipos c2 h
    refine lv_iconst (v := 0) X.1 X.2.1 (dk T_X11_isField 15 rfl) ic_0 ?_
    obtain rfl := Option.some.inj h
    exact KR _ _ _ _ Y (dk T_X11_isField 16 rfl)
  · replace h := ineg c2 h
    refine lv_iload_n X.1 X.2.1 (dk T_X11_isField 5 rfl) rfl (lv_at hl 0 rfl) ?_
    refine lv_iload_n X.1 X.2.1 (dk T_X11_isField 6 rfl) rfl (lv_at hl 1 rfl) ?_
    refine lv_iload_n X.1 X.2.1 (dk T_X11_isField 7 rfl) rfl (lv_at hl 2 rfl) ?_
    refine lv_iload_n X.1 X.2.1 (dk T_X11_isField 8 rfl) rfl (lv_at hl 2 rfl) ?_
    obtain ⟨q3, hq3, h⟩ := bs h
    refine gsI (rest := [.int (x2), .int (x1), .int (x0)]) X Y (c_X11_lowest x2 σ hq3) cb_X11_112 hl.1 rfl rfl (Nat.le_of_ble_eq_true rfl) ⟨Nat.le_of_ble_eq_true rfl, Nat.le_of_ble_eq_true rfl⟩ (dk T_X11_isField 9 rfl) (fun H locs Y => ?_)
    obtain ⟨q4, hq4, h⟩ := bs h
    refine gsI (rest := []) X Y (c_X11_spread x0 x1 x2 q3 σ hq4) cb_X11_115 hl.1 rfl rfl (Nat.le_of_ble_eq_true rfl) ⟨Nat.le_of_ble_eq_true rfl, Nat.le_of_ble_eq_true rfl⟩ (dk T_X11_isField 10 rfl) (fun H locs Y => ?_)
    refine lv_iload_n X.1 X.2.1 (dk T_X11_isField 11 rfl) rfl (lv_at hl 2 rfl) ?_
    refine lv_icmp_ne (tgt := 27) X.1 X.2.1 (dk T_X11_isField 12 rfl) rfl (fun c5 => ?_) (fun c5 => ?_)
    · replace h := ineg c5 h
      refine lv_iconst (v := 0) X.1 X.2.1 (dk T_X11_isField 15 rfl) ic_0 ?_
      obtain rfl := Option.some.inj h
      exact KR _ _ _ _ Y (dk T_X11_isField 16 rfl)
    · replace h := ipos c5 h
      refine lv_iconst (v := 1) X.1 X.2.1 (dk T_X11_isField 13 rfl) ic_1 ?_
      refine lv_goto (tgt := 28) X.1 X.2.1 (dk T_X11_isField 14 rfl) rfl ?_
      obtain rfl := Option.some.inj h
      exact KR _ _ _ _ Y (dk T_X11_isField 16 rfl)
def f_X11_isField (x0 : Int32) (x1 : Int32) (x2 : Int32) : Option (Int32) := bz (f_X11_isField_0 x0 x1 x2)
set_option maxHeartbeats 4000000 in
set_option maxRecDepth 100000 in
theorem c_X11_isField {l : Launch} {g : Geo} (x0 : Int32) (x1 : Int32) (x2 : Int32) (σ : St) {w : Int32} (h : f_X11_isField x0 x1 x2 = some w) : CtI l yX11_isField cX11_isField 3 (some .boolean) (rmm 2 50) g [.int (x0), .int (x1), .int (x2)] σ w σ := by
  obtain ⟨h, hz⟩ := bz_s h
  exact enI .boolean (by decide) rfl (bz_n hz) (Nat.le_of_ble_eq_true rfl) (fun p e s m args below meth c Q X Y ls hl KR => w_X11_isField_0 X x0 x1 x2 σ KR Y hl h)
def I_X11_makesShape : List (Nat × Instr × Nat) := [(0, .aload_n 0, 1), (1, .getfield 7, 3), (4, .iconst 1, 1), (5, .iaload, 1), (6, .istore 6, 2), (8, .aload_n 0, 1), (9, .getfield 7, 3), (12, .iconst 1, 1), (13, .dup2, 1), (14, .iaload, 1), (15, .iconst 1, 1), (16, .iadd, 1), (17, .iastore, 1), (18, .aload_n 0, 1), (19, .getfield 7, 3), (22, .sipush 621, 3), (25, .iload 6, 2), (27, .iadd, 1), (28, .iload_n 1, 1), (29, .iastore, 1), (30, .aload_n 0, 1), (31, .getfield 7, 3), (34, .sipush 629, 3), (37, .iload 6, 2), (39, .iadd, 1), (40, .iload_n 2, 1), (41, .iastore, 1), (42, .aload_n 0, 1), (43, .getfield 7, 3), (46, .sipush 637, 3), (49, .iload 6, 2), (51, .iadd, 1), (52, .iload_n 3, 1), (53, .iastore, 1), (54, .aload_n 0, 1), (55, .getfield 7, 3), (58, .sipush 645, 3), (61, .iload 6, 2), (63, .iadd, 1), (64, .iload 4, 2), (66, .iastore, 1), (67, .aload_n 0, 1), (68, .getfield 7, 3), (71, .sipush 653, 3), (74, .iload 6, 2), (76, .iadd, 1), (77, .iload 5, 2), (79, .iastore, 1), (80, .iload 6, 2), (82, .ireturn, 1)]
set_option maxRecDepth 100000 in
theorem T_X11_makesShape : ∀ q ∈ I_X11_makesShape, decode cX11_makesShape q.1 = .ok (q.2.1, q.2.2) := by decide +kernel
def f_X11_makesShape_0 (x1 : Int32) (x2 : Int32) (x3 : Int32) (x4 : Int32) (x5 : Int32) (σ : St) : Option (Int32 × St) :=
  chk (inb 1 761) (chk (inb 1 761) (chk (inb 1 761) (chk (inb (621 + (σ 102 (1 : Int32).toNatClampNeg)) 761) (chk (inb (629 + (σ 102 (1 : Int32).toNatClampNeg)) 761) (chk (inb (637 + (σ 102 (1 : Int32).toNatClampNeg)) 761) (chk (inb (645 + (σ 102 (1 : Int32).toNatClampNeg)) 761) (chk (inb (653 + (σ 102 (1 : Int32).toNatClampNeg)) 761) (some (σ 102 (1 : Int32).toNatClampNeg, up (up (up (up (up (up σ 102 (1 : Int32).toNatClampNeg ((σ 102 (1 : Int32).toNatClampNeg) + 1)) 102 (621 + (σ 102 (1 : Int32).toNatClampNeg)).toNatClampNeg x1) 102 (629 + (σ 102 (1 : Int32).toNatClampNeg)).toNatClampNeg x2) 102 (637 + (σ 102 (1 : Int32).toNatClampNeg)).toNatClampNeg x3) 102 (645 + (σ 102 (1 : Int32).toNatClampNeg)).toNatClampNeg x4) 102 (653 + (σ 102 (1 : Int32).toNatClampNeg)).toNatClampNeg x5)))))))))
set_option maxHeartbeats 4000000 in
set_option maxRecDepth 100000 in
theorem w_X11_makesShape_0 (X : Cx g RX11 cX11_makesShape 7 (some .int) p s m args meth c) (x1 : Int32) (x2 : Int32) (x3 : Int32) (x4 : Int32) (x5 : Int32) (σ : St) {w : Int32 × St} (KR : ∀ (H : Heap) (locs : List Loc) (ls : Array Slot) (pc : Nat), Wd g s w.2 H locs → decode cX11_makesShape pc = .ok (.ireturn, 1) → W p l e (rmm 0 0) s m args below meth c H locs 0 0 Q (F0 m pc ls [.int (w.1)])) {H : Heap} {locs : List Loc} {ls : Array Slot} (Y : Wd g s σ H locs) (hl : lv_has ls 7 [(0, .ref (g.2.2 (101))), (1, .int (x1)), (2, .int (x2)), (3, .int (x3)), (4, .int (x4)), (5, .int (x5))]) (h : f_X11_makesShape_0 x1 x2 x3 x4 x5 σ = some w) : W p l e (rmm 0 0) s m args below meth c H locs 0 0 Q (F0 m 0 ls []) := by
  unfold f_X11_makesShape_0 at h
  refine lv_aload_n X.1 X.2.1 (dk T_X11_makesShape 0 rfl) rfl (lv_at hl 0 rfl) ?_
  refine gg X Y fl_X11_7 rfl rfl (dk T_X11_makesShape 1 rfl) ?_
  refine lv_iconst (v := 1) X.1 X.2.1 (dk T_X11_makesShape 2 rfl) ic_1 ?_
  obtain ⟨g1, h⟩ := gd h
  refine gil X Y rfl (inp g1) (dk T_X11_makesShape 3 rfl) ?_
  refine lv_istore (lv' := [(6, .int (σ 102 (1 : Int32).toNatClampNeg)), (0, .ref (g.2.2 (101))), (1, .int (x1)), (2, .int (x2)), (3, .int (x3)), (4, .int (x4)), (5, .int (x5))]) X.1 X.2.1 (dk T_X11_makesShape 4 rfl) hl (Nat.le_of_ble_eq_true rfl) rfl (fun ls hl => ?_)
  refine lv_aload_n X.1 X.2.1 (dk T_X11_makesShape 5 rfl) rfl (lv_at hl 1 rfl) ?_
  refine gg X Y fl_X11_7 rfl rfl (dk T_X11_makesShape 6 rfl) ?_
  refine lv_iconst (v := 1) X.1 X.2.1 (dk T_X11_makesShape 7 rfl) ic_1 ?_
  refine lv_dup2_11 X.1 X.2.1 (dk T_X11_makesShape 8 rfl) rfl rfl ?_
  obtain ⟨g2, h⟩ := gd h
  refine gil X Y rfl (inp g2) (dk T_X11_makesShape 9 rfl) ?_
  refine lv_iconst (v := 1) X.1 X.2.1 (dk T_X11_makesShape 10 rfl) ic_1 ?_
  refine lv_iadd X.1 X.2.1 (dk T_X11_makesShape 11 rfl) ?_
  obtain ⟨g3, h⟩ := gd h
  refine gis X Y rfl (inp g3) (dk T_X11_makesShape 12 rfl) (fun H locs Y => ?_)
  refine lv_aload_n X.1 X.2.1 (dk T_X11_makesShape 13 rfl) rfl (lv_at hl 1 rfl) ?_
  refine gg X Y fl_X11_7 rfl rfl (dk T_X11_makesShape 14 rfl) ?_
  refine lv_sipush (v := 621) X.1 X.2.1 (dk T_X11_makesShape 15 rfl) sp_621 ?_
  refine lv_iload X.1 X.2.1 (dk T_X11_makesShape 16 rfl) (lv_at hl 0 rfl) ?_
  refine lv_iadd X.1 X.2.1 (dk T_X11_makesShape 17 rfl) ?_
  refine lv_iload_n X.1 X.2.1 (dk T_X11_makesShape 18 rfl) rfl (lv_at hl 2 rfl) ?_
  obtain ⟨g4, h⟩ := gd h
  refine gis X Y rfl (inp g4) (dk T_X11_makesShape 19 rfl) (fun H locs Y => ?_)
  refine lv_aload_n X.1 X.2.1 (dk T_X11_makesShape 20 rfl) rfl (lv_at hl 1 rfl) ?_
  refine gg X Y fl_X11_7 rfl rfl (dk T_X11_makesShape 21 rfl) ?_
  refine lv_sipush (v := 629) X.1 X.2.1 (dk T_X11_makesShape 22 rfl) sp_629 ?_
  refine lv_iload X.1 X.2.1 (dk T_X11_makesShape 23 rfl) (lv_at hl 0 rfl) ?_
  refine lv_iadd X.1 X.2.1 (dk T_X11_makesShape 24 rfl) ?_
  refine lv_iload_n X.1 X.2.1 (dk T_X11_makesShape 25 rfl) rfl (lv_at hl 3 rfl) ?_
  obtain ⟨g5, h⟩ := gd h
  refine gis X Y rfl (inp g5) (dk T_X11_makesShape 26 rfl) (fun H locs Y => ?_)
  refine lv_aload_n X.1 X.2.1 (dk T_X11_makesShape 27 rfl) rfl (lv_at hl 1 rfl) ?_
  refine gg X Y fl_X11_7 rfl rfl (dk T_X11_makesShape 28 rfl) ?_
  refine lv_sipush (v := 637) X.1 X.2.1 (dk T_X11_makesShape 29 rfl) sp_637 ?_
  refine lv_iload X.1 X.2.1 (dk T_X11_makesShape 30 rfl) (lv_at hl 0 rfl) ?_
  refine lv_iadd X.1 X.2.1 (dk T_X11_makesShape 31 rfl) ?_
  refine lv_iload_n X.1 X.2.1 (dk T_X11_makesShape 32 rfl) rfl (lv_at hl 4 rfl) ?_
  obtain ⟨g6, h⟩ := gd h
  refine gis X Y rfl (inp g6) (dk T_X11_makesShape 33 rfl) (fun H locs Y => ?_)
  refine lv_aload_n X.1 X.2.1 (dk T_X11_makesShape 34 rfl) rfl (lv_at hl 1 rfl) ?_
  refine gg X Y fl_X11_7 rfl rfl (dk T_X11_makesShape 35 rfl) ?_
  refine lv_sipush (v := 645) X.1 X.2.1 (dk T_X11_makesShape 36 rfl) sp_645 ?_
  refine lv_iload X.1 X.2.1 (dk T_X11_makesShape 37 rfl) (lv_at hl 0 rfl) ?_
  refine lv_iadd X.1 X.2.1 (dk T_X11_makesShape 38 rfl) ?_
  refine lv_iload X.1 X.2.1 (dk T_X11_makesShape 39 rfl) (lv_at hl 5 rfl) ?_
  obtain ⟨g7, h⟩ := gd h
  refine gis X Y rfl (inp g7) (dk T_X11_makesShape 40 rfl) (fun H locs Y => ?_)
  refine lv_aload_n X.1 X.2.1 (dk T_X11_makesShape 41 rfl) rfl (lv_at hl 1 rfl) ?_
  refine gg X Y fl_X11_7 rfl rfl (dk T_X11_makesShape 42 rfl) ?_
  refine lv_sipush (v := 653) X.1 X.2.1 (dk T_X11_makesShape 43 rfl) sp_653 ?_
  refine lv_iload X.1 X.2.1 (dk T_X11_makesShape 44 rfl) (lv_at hl 0 rfl) ?_
  refine lv_iadd X.1 X.2.1 (dk T_X11_makesShape 45 rfl) ?_
  refine lv_iload X.1 X.2.1 (dk T_X11_makesShape 46 rfl) (lv_at hl 6 rfl) ?_
  obtain ⟨g8, h⟩ := gd h
  refine gis X Y rfl (inp g8) (dk T_X11_makesShape 47 rfl) (fun H locs Y => ?_)
  refine lv_iload X.1 X.2.1 (dk T_X11_makesShape 48 rfl) (lv_at hl 0 rfl) ?_
  obtain rfl := Option.some.inj h
  exact KR _ _ _ _ Y (dk T_X11_makesShape 49 rfl)
def f_X11_makesShape (x1 : Int32) (x2 : Int32) (x3 : Int32) (x4 : Int32) (x5 : Int32) (σ : St) : Option (Int32 × St) := f_X11_makesShape_0 x1 x2 x3 x4 x5 σ
set_option maxHeartbeats 4000000 in
set_option maxRecDepth 100000 in
theorem c_X11_makesShape {l : Launch} {g : Geo} (x1 : Int32) (x2 : Int32) (x3 : Int32) (x4 : Int32) (x5 : Int32) (σ : St) {w : Int32 × St} (h : f_X11_makesShape x1 x2 x3 x4 x5 σ = some w) : CtI l yX11_makesShape cX11_makesShape 7 (some .int) (rmm 0 0) g [.ref (g.2.2 (101)), .int (x1), .int (x2), .int (x3), .int (x4), .int (x5)] σ w.1 w.2 := enI .int (by decide) rfl rfl (Nat.le_of_ble_eq_true rfl) (fun p e s m args below meth c Q X Y ls hl KR => w_X11_makesShape_0 X x1 x2 x3 x4 x5 σ KR Y hl h)
def I_X11_addShape : List (Nat × Instr × Nat) := [(0, .aload_n 0, 1), (1, .iconst 0, 1), (2, .putfield 71, 3), (5, .iload_n 1, 1), (6, .iconst 1, 1), (7, .iconst 4, 1), (8, .invokestatic 75, 3), (11, .ifCond .eq 37, 3), (14, .iload_n 2, 1), (15, .iconst 1, 1), (16, .iconst 4, 1), (17, .invokestatic 75, 3), (20, .ifCond .eq 28, 3), (23, .iload 4, 2), (25, .iconst 0, 1), (26, .iconst 2, 1), (27, .invokestatic 75, 3), (30, .ifCond .eq 18, 3), (33, .iload 5, 2), (35, .iconst 0, 1), (36, .bipush 99, 2), (38, .invokestatic 75, 3), (41, .ifCond .eq 7, 3), (44, .iconst 1, 1), (45, .goto 4, 3), (48, .iconst 0, 1), (49, .istore 6, 2), (51, .iload 6, 2), (53, .ifCond .eq 27, 3), (56, .iload_n 3, 1), (57, .iconst 1, 1), (58, .iconst 1, 1), (59, .iload_n 1, 1), (60, .iload_n 2, 1), (61, .imul, 1), (62, .ishl, 1), (63, .iconst 1, 1), (64, .isub, 1), (65, .invokestatic 75, 3), (68, .ifCond .eq 12, 3), (71, .iload_n 1, 1), (72, .iload_n 2, 1), (73, .iload_n 3, 1), (74, .invokestatic 119, 3), (77, .ifCond .ne 9, 3), (80, .aload_n 0, 1), (81, .iconst 1, 1), (82, .invokevirtual 91, 3), (85, .ireturn, 1), (86, .aload_n 0, 1), (87, .getfield 7, 3), (90, .iconst 1, 1), (91, .iaload, 1), (92, .bipush 8, 2), (94, .if_icmp .ne 9, 3), (97, .aload_n 0, 1), (98, .iconst 2, 1), (99, .invokevirtual 91, 3), (102, .ireturn, 1), (103, .aload_n 0, 1), (104, .invokevirtual 95, 3), (107, .aload_n 0, 1), (108, .iload_n 1, 1), (109, .iload_n 2, 1), (110, .iload_n 3, 1), (111, .iload 4, 2), (113, .iload 5, 2), (115, .invokevirtual 122, 3), (118, .ireturn, 1)]
set_option maxRecDepth 100000 in
theorem T_X11_addShape : ∀ q ∈ I_X11_addShape, decode cX11_addShape q.1 = .ok (q.2.1, q.2.2) := by decide +kernel
def f_X11_addShape_j80 (σ : St) : Option (Int32 × St) :=
  (f_X11_fails 1 σ).bind fun q4 => some (q4.1, q4.2)
set_option maxHeartbeats 4000000 in
set_option maxRecDepth 100000 in
theorem w_X11_addShape_j80 (X : Cx g RX11 cX11_addShape 7 (some .int) p s m args meth c) (σ : St) {w : Int32 × St} (KR : ∀ (H : Heap) (locs : List Loc) (ls : Array Slot) (pc : Nat), Wd g s w.2 H locs → decode cX11_addShape pc = .ok (.ireturn, 1) → W p l e (rmm 3 72) s m args below meth c H locs 0 0 Q (F0 m pc ls [.int (w.1)])) {H : Heap} {locs : List Loc} {ls : Array Slot} (Y : Wd g s σ H locs) (hl : lv_has ls 7 [(0, .ref (g.2.2 (101)))]) (h : f_X11_addShape_j80 σ = some w) : W p l e (rmm 3 72) s m args below meth c H locs 0 0 Q (F0 m 80 ls []) := by
  unfold f_X11_addShape_j80 at h
  refine lv_aload_n X.1 X.2.1 (dk T_X11_addShape 45 rfl) rfl (lv_at hl 0 rfl) ?_
  refine lv_iconst (v := 1) X.1 X.2.1 (dk T_X11_addShape 46 rfl) ic_1 ?_
  obtain ⟨q4, hq4, h⟩ := bs h
  refine gvI (rest := []) X Y (c_X11_fails 1 σ hq4) cb_X11_91 rfl hl.1 rfl rfl (Nat.le_of_ble_eq_true rfl) ⟨Nat.le_of_ble_eq_true rfl, Nat.le_of_ble_eq_true rfl⟩ (dk T_X11_addShape 47 rfl) (fun H locs Y => ?_)
  obtain rfl := Option.some.inj h
  exact KR _ _ _ _ Y (dk T_X11_addShape 48 rfl)
def f_X11_addShape_j49 (x1 : Int32) (x2 : Int32) (x3 : Int32) (x4 : Int32) (x5 : Int32) (s0 : Int32) (σ : St) : Option (Int32 × St) :=
  if s0 = 0 then f_X11_addShape_j80 σ else (f_X11_in x3 1 (((1 : Int32) <<< ((x1 * x2) &&& 31)) - 1)).bind fun q5 => if q5 = 0 then f_X11_addShape_j80 σ else (f_X11_isField x1 x2 x3).bind fun q7 => if q7 = 0 then f_X11_addShape_j80 σ else chk (inb 1 761) (if (σ 102 (1 : Int32).toNatClampNeg) = 8 then (f_X11_fails 2 σ).bind fun q13 => some (q13.1, q13.2) else (f_X11_changes σ).bind fun q11 => (f_X11_makesShape x1 x2 x3 x4 x5 q11).bind fun q12 => some (q12.1, q12.2))
set_option maxHeartbeats 4000000 in
set_option maxRecDepth 100000 in
theorem w_X11_addShape_j49 (X : Cx g RX11 cX11_addShape 7 (some .int) p s m args meth c) (x1 : Int32) (x2 : Int32) (x3 : Int32) (x4 : Int32) (x5 : Int32) (s0 : Int32) (σ : St) {w : Int32 × St} (KR : ∀ (H : Heap) (locs : List Loc) (ls : Array Slot) (pc : Nat), Wd g s w.2 H locs → decode cX11_addShape pc = .ok (.ireturn, 1) → W p l e (rmm 3 72) s m args below meth c H locs 0 0 Q (F0 m pc ls [.int (w.1)])) {H : Heap} {locs : List Loc} {ls : Array Slot} (Y : Wd g s σ H locs) (hl : lv_has ls 7 [(0, .ref (g.2.2 (101))), (1, .int (x1)), (2, .int (x2)), (3, .int (x3)), (4, .int (x4)), (5, .int (x5))]) (h : f_X11_addShape_j49 x1 x2 x3 x4 x5 s0 σ = some w) : W p l e (rmm 3 72) s m args below meth c H locs 0 0 Q (F0 m 49 ls [.int (s0)]) := by
  unfold f_X11_addShape_j49 at h
  refine lv_istore (lv' := [(6, .int (s0)), (0, .ref (g.2.2 (101))), (1, .int (x1)), (2, .int (x2)), (3, .int (x3)), (4, .int (x4)), (5, .int (x5))]) X.1 X.2.1 (dk T_X11_addShape 26 rfl) hl (Nat.le_of_ble_eq_true rfl) rfl (fun ls hl => ?_)
  refine lv_iload X.1 X.2.1 (dk T_X11_addShape 27 rfl) (lv_at hl 0 rfl) ?_
  refine lv_if_eq (tgt := 80) X.1 X.2.1 (dk T_X11_addShape 28 rfl) rfl (fun c3 => ?_) (fun c3 => ?_)
  · replace h := ipos c3 h
    exact w_X11_addShape_j80 X σ KR Y (lv_sub hl [1] rfl) h
  · replace h := ineg c3 h
    refine lv_iload_n X.1 X.2.1 (dk T_X11_addShape 29 rfl) rfl (lv_at hl 4 rfl) ?_
    refine lv_iconst (v := 1) X.1 X.2.1 (dk T_X11_addShape 30 rfl) ic_1 ?_
    refine lv_iconst (v := 1) X.1 X.2.1 (dk T_X11_addShape 31 rfl) ic_1 ?_
    refine lv_iload_n X.1 X.2.1 (dk T_X11_addShape 32 rfl) rfl (lv_at hl 2 rfl) ?_
    refine lv_iload_n X.1 X.2.1 (dk T_X11_addShape 33 rfl) rfl (lv_at hl 3 rfl) ?_
    refine lv_imul X.1 X.2.1 (dk T_X11_addShape 34 rfl) ?_
    refine lv_ishl X.1 X.2.1 (dk T_X11_addShape 35 rfl) ?_
    refine lv_iconst (v := 1) X.1 X.2.1 (dk T_X11_addShape 36 rfl) ic_1 ?_
    refine lv_isub X.1 X.2.1 (dk T_X11_addShape 37 rfl) ?_
    obtain ⟨q5, hq5, h⟩ := bs h
    refine gsI (rest := []) X Y (c_X11_in x3 1 (((1 : Int32) <<< ((x1 * x2) &&& 31)) - 1) σ hq5) cb_X11_75 hl.1 rfl rfl (Nat.le_of_ble_eq_true rfl) ⟨Nat.le_of_ble_eq_true rfl, Nat.le_of_ble_eq_true rfl⟩ (dk T_X11_addShape 38 rfl) (fun H locs Y => ?_)
    refine lv_if_eq (tgt := 80) X.1 X.2.1 (dk T_X11_addShape 39 rfl) rfl (fun c6 => ?_) (fun c6 => ?_)
    · replace h := ipos c6 h
      exact w_X11_addShape_j80 X σ KR Y (lv_sub hl [1] rfl) h
    · replace h := ineg c6 h
      refine lv_iload_n X.1 X.2.1 (dk T_X11_addShape 40 rfl) rfl (lv_at hl 2 rfl) ?_
      refine lv_iload_n X.1 X.2.1 (dk T_X11_addShape 41 rfl) rfl (lv_at hl 3 rfl) ?_
      refine lv_iload_n X.1 X.2.1 (dk T_X11_addShape 42 rfl) rfl (lv_at hl 4 rfl) ?_
      obtain ⟨q7, hq7, h⟩ := bs h
      refine gsI (rest := []) X Y (c_X11_isField x1 x2 x3 σ hq7) cb_X11_119 hl.1 rfl rfl (Nat.le_of_ble_eq_true rfl) ⟨Nat.le_of_ble_eq_true rfl, Nat.le_of_ble_eq_true rfl⟩ (dk T_X11_addShape 43 rfl) (fun H locs Y => ?_)
      refine lv_if_ne (tgt := 86) X.1 X.2.1 (dk T_X11_addShape 44 rfl) rfl (fun c8 => ?_) (fun c8 => ?_)
      · replace h := ineg c8 h
        refine lv_aload_n X.1 X.2.1 (dk T_X11_addShape 49 rfl) rfl (lv_at hl 1 rfl) ?_
        refine gg X Y fl_X11_7 rfl rfl (dk T_X11_addShape 50 rfl) ?_
        refine lv_iconst (v := 1) X.1 X.2.1 (dk T_X11_addShape 51 rfl) ic_1 ?_
        obtain ⟨g9, h⟩ := gd h
        refine gil X Y rfl (inp g9) (dk T_X11_addShape 52 rfl) ?_
        refine lv_bipush (v := 8) X.1 X.2.1 (dk T_X11_addShape 53 rfl) bp_8 ?_
        refine lv_icmp_ne (tgt := 103) X.1 X.2.1 (dk T_X11_addShape 54 rfl) rfl (fun c10 => ?_) (fun c10 => ?_)
        · replace h := ineg c10 h
          refine lv_aload_n X.1 X.2.1 (dk T_X11_addShape 59 rfl) rfl (lv_at hl 1 rfl) ?_
          obtain ⟨q11, hq11, h⟩ := bs h
          refine gvV (rest := []) X Y (c_X11_changes σ hq11) cb_X11_95 rfl hl.1 rfl rfl (Nat.le_of_ble_eq_true rfl) ⟨Nat.le_of_ble_eq_true rfl, Nat.le_of_ble_eq_true rfl⟩ (dk T_X11_addShape 60 rfl) (fun H locs Y => ?_)
          refine lv_aload_n X.1 X.2.1 (dk T_X11_addShape 61 rfl) rfl (lv_at hl 1 rfl) ?_
          refine lv_iload_n X.1 X.2.1 (dk T_X11_addShape 62 rfl) rfl (lv_at hl 2 rfl) ?_
          refine lv_iload_n X.1 X.2.1 (dk T_X11_addShape 63 rfl) rfl (lv_at hl 3 rfl) ?_
          refine lv_iload_n X.1 X.2.1 (dk T_X11_addShape 64 rfl) rfl (lv_at hl 4 rfl) ?_
          refine lv_iload X.1 X.2.1 (dk T_X11_addShape 65 rfl) (lv_at hl 5 rfl) ?_
          refine lv_iload X.1 X.2.1 (dk T_X11_addShape 66 rfl) (lv_at hl 6 rfl) ?_
          obtain ⟨q12, hq12, h⟩ := bs h
          refine gvI (rest := []) X Y (c_X11_makesShape x1 x2 x3 x4 x5 q11 hq12) cb_X11_122 rfl hl.1 rfl rfl (Nat.le_of_ble_eq_true rfl) ⟨Nat.le_of_ble_eq_true rfl, Nat.le_of_ble_eq_true rfl⟩ (dk T_X11_addShape 67 rfl) (fun H locs Y => ?_)
          obtain rfl := Option.some.inj h
          exact KR _ _ _ _ Y (dk T_X11_addShape 68 rfl)
        · replace h := ipos c10 h
          refine lv_aload_n X.1 X.2.1 (dk T_X11_addShape 55 rfl) rfl (lv_at hl 1 rfl) ?_
          refine lv_iconst (v := 2) X.1 X.2.1 (dk T_X11_addShape 56 rfl) ic_2 ?_
          obtain ⟨q13, hq13, h⟩ := bs h
          refine gvI (rest := []) X Y (c_X11_fails 2 σ hq13) cb_X11_91 rfl hl.1 rfl rfl (Nat.le_of_ble_eq_true rfl) ⟨Nat.le_of_ble_eq_true rfl, Nat.le_of_ble_eq_true rfl⟩ (dk T_X11_addShape 57 rfl) (fun H locs Y => ?_)
          obtain rfl := Option.some.inj h
          exact KR _ _ _ _ Y (dk T_X11_addShape 58 rfl)
      · replace h := ipos c8 h
        exact w_X11_addShape_j80 X σ KR Y (lv_sub hl [1] rfl) h
def f_X11_addShape_j48 (x1 : Int32) (x2 : Int32) (x3 : Int32) (x4 : Int32) (x5 : Int32) (σ : St) : Option (Int32 × St) :=
  f_X11_addShape_j49 x1 x2 x3 x4 x5 0 σ
set_option maxHeartbeats 4000000 in
set_option maxRecDepth 100000 in
theorem w_X11_addShape_j48 (X : Cx g RX11 cX11_addShape 7 (some .int) p s m args meth c) (x1 : Int32) (x2 : Int32) (x3 : Int32) (x4 : Int32) (x5 : Int32) (σ : St) {w : Int32 × St} (KR : ∀ (H : Heap) (locs : List Loc) (ls : Array Slot) (pc : Nat), Wd g s w.2 H locs → decode cX11_addShape pc = .ok (.ireturn, 1) → W p l e (rmm 3 72) s m args below meth c H locs 0 0 Q (F0 m pc ls [.int (w.1)])) {H : Heap} {locs : List Loc} {ls : Array Slot} (Y : Wd g s σ H locs) (hl : lv_has ls 7 [(0, .ref (g.2.2 (101))), (1, .int (x1)), (2, .int (x2)), (3, .int (x3)), (4, .int (x4)), (5, .int (x5))]) (h : f_X11_addShape_j48 x1 x2 x3 x4 x5 σ = some w) : W p l e (rmm 3 72) s m args below meth c H locs 0 0 Q (F0 m 48 ls []) := by
  unfold f_X11_addShape_j48 at h
  refine lv_iconst (v := 0) X.1 X.2.1 (dk T_X11_addShape 25 rfl) ic_0 ?_
  exact w_X11_addShape_j49 X x1 x2 x3 x4 x5 0 σ KR Y (lv_sub hl [0, 1, 2, 3, 4, 5] rfl) h
def f_X11_addShape_0 (x1 : Int32) (x2 : Int32) (x3 : Int32) (x4 : Int32) (x5 : Int32) (σ : St) : Option (Int32 × St) :=
  (f_X11_in x1 1 4).bind fun q1 => if q1 = 0 then f_X11_addShape_j48 x1 x2 x3 x4 x5 (up σ 101 0 0) else (f_X11_in x2 1 4).bind fun q14 => if q14 = 0 then f_X11_addShape_j48 x1 x2 x3 x4 x5 (up σ 101 0 0) else (f_X11_in x4 0 2).bind fun q16 => if q16 = 0 then f_X11_addShape_j48 x1 x2 x3 x4 x5 (up σ 101 0 0) else (f_X11_in x5 0 99).bind fun q18 => if q18 = 0 then f_X11_addShape_j48 x1 x2 x3 x4 x5 (up σ 101 0 0) else f_X11_addShape_j49 x1 x2 x3 x4 x5 1 (up σ 101 0 0)
set_option maxHeartbeats 4000000 in
set_option maxRecDepth 100000 in
theorem w_X11_addShape_0 (X : Cx g RX11 cX11_addShape 7 (some .int) p s m args meth c) (x1 : Int32) (x2 : Int32) (x3 : Int32) (x4 : Int32) (x5 : Int32) (σ : St) {w : Int32 × St} (KR : ∀ (H : Heap) (locs : List Loc) (ls : Array Slot) (pc : Nat), Wd g s w.2 H locs → decode cX11_addShape pc = .ok (.ireturn, 1) → W p l e (rmm 3 72) s m args below meth c H locs 0 0 Q (F0 m pc ls [.int (w.1)])) {H : Heap} {locs : List Loc} {ls : Array Slot} (Y : Wd g s σ H locs) (hl : lv_has ls 7 [(0, .ref (g.2.2 (101))), (1, .int (x1)), (2, .int (x2)), (3, .int (x3)), (4, .int (x4)), (5, .int (x5))]) (h : f_X11_addShape_0 x1 x2 x3 x4 x5 σ = some w) : W p l e (rmm 3 72) s m args below meth c H locs 0 0 Q (F0 m 0 ls []) := by
  unfold f_X11_addShape_0 at h
  refine lv_aload_n X.1 X.2.1 (dk T_X11_addShape 0 rfl) rfl (lv_at hl 0 rfl) ?_
  refine lv_iconst (v := 0) X.1 X.2.1 (dk T_X11_addShape 1 rfl) ic_0 ?_
  refine gp X Y fp_X11_71 rfl (nar_int _) (dk T_X11_addShape 2 rfl) (fun H locs Y => ?_)
  refine lv_iload_n X.1 X.2.1 (dk T_X11_addShape 3 rfl) rfl (lv_at hl 1 rfl) ?_
  refine lv_iconst (v := 1) X.1 X.2.1 (dk T_X11_addShape 4 rfl) ic_1 ?_
  refine lv_iconst (v := 4) X.1 X.2.1 (dk T_X11_addShape 5 rfl) ic_4 ?_
  obtain ⟨q1, hq1, h⟩ := bs h
  refine gsI (rest := []) X Y (c_X11_in x1 1 4 (up σ 101 0 0) hq1) cb_X11_75 hl.1 rfl rfl (Nat.le_of_ble_eq_true rfl) ⟨Nat.le_of_ble_eq_true rfl, Nat.le_of_ble_eq_true rfl⟩ (dk T_X11_addShape 6 rfl) (fun H locs Y => ?_)
  refine lv_if_eq (tgt := 48) X.1 X.2.1 (dk T_X11_addShape 7 rfl) rfl (fun c2 => ?_) (fun c2 => ?_)
  · replace h := ipos c2 h
    exact w_X11_addShape_j48 X x1 x2 x3 x4 x5 (up σ 101 0 0) KR Y (lv_sub hl [0, 1, 2, 3, 4, 5] rfl) h
  · replace h := ineg c2 h
    refine lv_iload_n X.1 X.2.1 (dk T_X11_addShape 8 rfl) rfl (lv_at hl 2 rfl) ?_
    refine lv_iconst (v := 1) X.1 X.2.1 (dk T_X11_addShape 9 rfl) ic_1 ?_
    refine lv_iconst (v := 4) X.1 X.2.1 (dk T_X11_addShape 10 rfl) ic_4 ?_
    obtain ⟨q14, hq14, h⟩ := bs h
    refine gsI (rest := []) X Y (c_X11_in x2 1 4 (up σ 101 0 0) hq14) cb_X11_75 hl.1 rfl rfl (Nat.le_of_ble_eq_true rfl) ⟨Nat.le_of_ble_eq_true rfl, Nat.le_of_ble_eq_true rfl⟩ (dk T_X11_addShape 11 rfl) (fun H locs Y => ?_)
    refine lv_if_eq (tgt := 48) X.1 X.2.1 (dk T_X11_addShape 12 rfl) rfl (fun c15 => ?_) (fun c15 => ?_)
    · replace h := ipos c15 h
      exact w_X11_addShape_j48 X x1 x2 x3 x4 x5 (up σ 101 0 0) KR Y (lv_sub hl [0, 1, 2, 3, 4, 5] rfl) h
    · replace h := ineg c15 h
      refine lv_iload X.1 X.2.1 (dk T_X11_addShape 13 rfl) (lv_at hl 4 rfl) ?_
      refine lv_iconst (v := 0) X.1 X.2.1 (dk T_X11_addShape 14 rfl) ic_0 ?_
      refine lv_iconst (v := 2) X.1 X.2.1 (dk T_X11_addShape 15 rfl) ic_2 ?_
      obtain ⟨q16, hq16, h⟩ := bs h
      refine gsI (rest := []) X Y (c_X11_in x4 0 2 (up σ 101 0 0) hq16) cb_X11_75 hl.1 rfl rfl (Nat.le_of_ble_eq_true rfl) ⟨Nat.le_of_ble_eq_true rfl, Nat.le_of_ble_eq_true rfl⟩ (dk T_X11_addShape 16 rfl) (fun H locs Y => ?_)
      refine lv_if_eq (tgt := 48) X.1 X.2.1 (dk T_X11_addShape 17 rfl) rfl (fun c17 => ?_) (fun c17 => ?_)
      · replace h := ipos c17 h
        exact w_X11_addShape_j48 X x1 x2 x3 x4 x5 (up σ 101 0 0) KR Y (lv_sub hl [0, 1, 2, 3, 4, 5] rfl) h
      · replace h := ineg c17 h
        refine lv_iload X.1 X.2.1 (dk T_X11_addShape 18 rfl) (lv_at hl 5 rfl) ?_
        refine lv_iconst (v := 0) X.1 X.2.1 (dk T_X11_addShape 19 rfl) ic_0 ?_
        refine lv_bipush (v := 99) X.1 X.2.1 (dk T_X11_addShape 20 rfl) bp_99 ?_
        obtain ⟨q18, hq18, h⟩ := bs h
        refine gsI (rest := []) X Y (c_X11_in x5 0 99 (up σ 101 0 0) hq18) cb_X11_75 hl.1 rfl rfl (Nat.le_of_ble_eq_true rfl) ⟨Nat.le_of_ble_eq_true rfl, Nat.le_of_ble_eq_true rfl⟩ (dk T_X11_addShape 21 rfl) (fun H locs Y => ?_)
        refine lv_if_eq (tgt := 48) X.1 X.2.1 (dk T_X11_addShape 22 rfl) rfl (fun c19 => ?_) (fun c19 => ?_)
        · replace h := ipos c19 h
          exact w_X11_addShape_j48 X x1 x2 x3 x4 x5 (up σ 101 0 0) KR Y (lv_sub hl [0, 1, 2, 3, 4, 5] rfl) h
        · replace h := ineg c19 h
          refine lv_iconst (v := 1) X.1 X.2.1 (dk T_X11_addShape 23 rfl) ic_1 ?_
          refine lv_goto (tgt := 49) X.1 X.2.1 (dk T_X11_addShape 24 rfl) rfl ?_
          exact w_X11_addShape_j49 X x1 x2 x3 x4 x5 1 (up σ 101 0 0) KR Y (lv_sub hl [0, 1, 2, 3, 4, 5] rfl) h
def f_X11_addShape (x1 : Int32) (x2 : Int32) (x3 : Int32) (x4 : Int32) (x5 : Int32) (σ : St) : Option (Int32 × St) := f_X11_addShape_0 x1 x2 x3 x4 x5 σ
set_option maxHeartbeats 4000000 in
set_option maxRecDepth 100000 in
theorem c_X11_addShape {l : Launch} {g : Geo} (x1 : Int32) (x2 : Int32) (x3 : Int32) (x4 : Int32) (x5 : Int32) (σ : St) {w : Int32 × St} (h : f_X11_addShape x1 x2 x3 x4 x5 σ = some w) : CtI l yX11_addShape cX11_addShape 7 (some .int) (rmm 3 72) g [.ref (g.2.2 (101)), .int (x1), .int (x2), .int (x3), .int (x4), .int (x5)] σ w.1 w.2 := enI .int (by decide) rfl rfl (Nat.le_of_ble_eq_true rfl) (fun p e s m args below meth c Q X Y ls hl KR => w_X11_addShape_0 X x1 x2 x3 x4 x5 σ KR Y hl h)
def I_X11_isSheet : List (Nat × Instr × Nat) := [(0, .iload_n 1, 1), (1, .iconst 0, 1), (2, .aload_n 0, 1), (3, .getfield 7, 3), (6, .iconst 0, 1), (7, .iaload, 1), (8, .iconst 1, 1), (9, .isub, 1), (10, .invokestatic 75, 3), (13, .ireturn, 1)]
set_option maxRecDepth 100000 in
theorem T_X11_isSheet : ∀ q ∈ I_X11_isSheet, decode cX11_isSheet q.1 = .ok (q.2.1, q.2.2) := by decide +kernel
def f_X11_isSheet_0 (x1 : Int32) (σ : St) : Option (Int32) :=
  chk (inb 0 761) ((f_X11_in x1 0 ((σ 102 (0 : Int32).toNatClampNeg) - 1)).bind fun q2 => some q2)
set_option maxHeartbeats 4000000 in
set_option maxRecDepth 100000 in
theorem w_X11_isSheet_0 (X : Cx g RX11 cX11_isSheet 2 (some .boolean) p s m args meth c) (x1 : Int32) (σ : St) {w : Int32} (KR : ∀ (H : Heap) (locs : List Loc) (ls : Array Slot) (pc : Nat), Wd g s σ H locs → decode cX11_isSheet pc = .ok (.ireturn, 1) → W p l e (rmm 1 22) s m args below meth c H locs 0 0 Q (F0 m pc ls [.int (w)])) {H : Heap} {locs : List Loc} {ls : Array Slot} (Y : Wd g s σ H locs) (hl : lv_has ls 2 [(0, .ref (g.2.2 (101))), (1, .int (x1))]) (h : f_X11_isSheet_0 x1 σ = some w) : W p l e (rmm 1 22) s m args below meth c H locs 0 0 Q (F0 m 0 ls []) := by
  unfold f_X11_isSheet_0 at h
  refine lv_iload_n X.1 X.2.1 (dk T_X11_isSheet 0 rfl) rfl (lv_at hl 1 rfl) ?_
  refine lv_iconst (v := 0) X.1 X.2.1 (dk T_X11_isSheet 1 rfl) ic_0 ?_
  refine lv_aload_n X.1 X.2.1 (dk T_X11_isSheet 2 rfl) rfl (lv_at hl 0 rfl) ?_
  refine gg X Y fl_X11_7 rfl rfl (dk T_X11_isSheet 3 rfl) ?_
  refine lv_iconst (v := 0) X.1 X.2.1 (dk T_X11_isSheet 4 rfl) ic_0 ?_
  obtain ⟨g1, h⟩ := gd h
  refine gil X Y rfl (inp g1) (dk T_X11_isSheet 5 rfl) ?_
  refine lv_iconst (v := 1) X.1 X.2.1 (dk T_X11_isSheet 6 rfl) ic_1 ?_
  refine lv_isub X.1 X.2.1 (dk T_X11_isSheet 7 rfl) ?_
  obtain ⟨q2, hq2, h⟩ := bs h
  refine gsI (rest := []) X Y (c_X11_in x1 0 ((σ 102 (0 : Int32).toNatClampNeg) - 1) σ hq2) cb_X11_75 hl.1 rfl rfl (Nat.le_of_ble_eq_true rfl) ⟨Nat.le_of_ble_eq_true rfl, Nat.le_of_ble_eq_true rfl⟩ (dk T_X11_isSheet 8 rfl) (fun H locs Y => ?_)
  obtain rfl := Option.some.inj h
  exact KR _ _ _ _ Y (dk T_X11_isSheet 9 rfl)
def f_X11_isSheet (x1 : Int32) (σ : St) : Option (Int32) := bz (f_X11_isSheet_0 x1 σ)
set_option maxHeartbeats 4000000 in
set_option maxRecDepth 100000 in
theorem c_X11_isSheet {l : Launch} {g : Geo} (x1 : Int32) (σ : St) {w : Int32} (h : f_X11_isSheet x1 σ = some w) : CtI l yX11_isSheet cX11_isSheet 2 (some .boolean) (rmm 1 22) g [.ref (g.2.2 (101)), .int (x1)] σ w σ := by
  obtain ⟨h, hz⟩ := bz_s h
  exact enI .boolean (by decide) rfl (bz_n hz) (Nat.le_of_ble_eq_true rfl) (fun p e s m args below meth c Q X Y ls hl KR => w_X11_isSheet_0 X x1 σ KR Y hl h)
def I_X11_cells : List (Nat × Instr × Nat) := [(0, .aload_n 0, 1), (1, .getfield 7, 3), (4, .iconst 3, 1), (5, .iload_n 1, 1), (6, .iadd, 1), (7, .iaload, 1), (8, .aload_n 0, 1), (9, .getfield 7, 3), (12, .bipush 9, 2), (14, .iload_n 1, 1), (15, .iadd, 1), (16, .iaload, 1), (17, .imul, 1), (18, .ireturn, 1)]
set_option maxRecDepth 100000 in
theorem T_X11_cells : ∀ q ∈ I_X11_cells, decode cX11_cells q.1 = .ok (q.2.1, q.2.2) := by decide +kernel
def f_X11_cells_0 (x1 : Int32) (σ : St) : Option (Int32) :=
  chk (inb (3 + x1) 761) (chk (inb (9 + x1) 761) (some ((σ 102 (3 + x1).toNatClampNeg) * (σ 102 (9 + x1).toNatClampNeg))))
set_option maxHeartbeats 4000000 in
set_option maxRecDepth 100000 in
theorem w_X11_cells_0 (X : Cx g RX11 cX11_cells 2 (some .int) p s m args meth c) (x1 : Int32) (σ : St) {w : Int32} (KR : ∀ (H : Heap) (locs : List Loc) (ls : Array Slot) (pc : Nat), Wd g s σ H locs → decode cX11_cells pc = .ok (.ireturn, 1) → W p l e (rmm 0 0) s m args below meth c H locs 0 0 Q (F0 m pc ls [.int (w)])) {H : Heap} {locs : List Loc} {ls : Array Slot} (Y : Wd g s σ H locs) (hl : lv_has ls 2 [(0, .ref (g.2.2 (101))), (1, .int (x1))]) (h : f_X11_cells_0 x1 σ = some w) : W p l e (rmm 0 0) s m args below meth c H locs 0 0 Q (F0 m 0 ls []) := by
  unfold f_X11_cells_0 at h
  refine lv_aload_n X.1 X.2.1 (dk T_X11_cells 0 rfl) rfl (lv_at hl 0 rfl) ?_
  refine gg X Y fl_X11_7 rfl rfl (dk T_X11_cells 1 rfl) ?_
  refine lv_iconst (v := 3) X.1 X.2.1 (dk T_X11_cells 2 rfl) ic_3 ?_
  refine lv_iload_n X.1 X.2.1 (dk T_X11_cells 3 rfl) rfl (lv_at hl 1 rfl) ?_
  refine lv_iadd X.1 X.2.1 (dk T_X11_cells 4 rfl) ?_
  obtain ⟨g1, h⟩ := gd h
  refine gil X Y rfl (inp g1) (dk T_X11_cells 5 rfl) ?_
  refine lv_aload_n X.1 X.2.1 (dk T_X11_cells 6 rfl) rfl (lv_at hl 0 rfl) ?_
  refine gg X Y fl_X11_7 rfl rfl (dk T_X11_cells 7 rfl) ?_
  refine lv_bipush (v := 9) X.1 X.2.1 (dk T_X11_cells 8 rfl) bp_9 ?_
  refine lv_iload_n X.1 X.2.1 (dk T_X11_cells 9 rfl) rfl (lv_at hl 1 rfl) ?_
  refine lv_iadd X.1 X.2.1 (dk T_X11_cells 10 rfl) ?_
  obtain ⟨g2, h⟩ := gd h
  refine gil X Y rfl (inp g2) (dk T_X11_cells 11 rfl) ?_
  refine lv_imul X.1 X.2.1 (dk T_X11_cells 12 rfl) ?_
  obtain rfl := Option.some.inj h
  exact KR _ _ _ _ Y (dk T_X11_cells 13 rfl)
def f_X11_cells (x1 : Int32) (σ : St) : Option (Int32) := f_X11_cells_0 x1 σ
set_option maxHeartbeats 4000000 in
set_option maxRecDepth 100000 in
theorem c_X11_cells {l : Launch} {g : Geo} (x1 : Int32) (σ : St) {w : Int32} (h : f_X11_cells x1 σ = some w) : CtI l yX11_cells cX11_cells 2 (some .int) (rmm 0 0) g [.ref (g.2.2 (101)), .int (x1)] σ w σ := enI .int (by decide) rfl rfl (Nat.le_of_ble_eq_true rfl) (fun p e s m args below meth c Q X Y ls hl KR => w_X11_cells_0 X x1 σ KR Y hl h)
def I_X11_turnedColumns : List (Nat × Instr × Nat) := [(0, .iload_n 2, 1), (1, .iconst 2, 1), (2, .irem, 1), (3, .ifCond .ne 16, 3), (6, .aload_n 0, 1), (7, .getfield 7, 3), (10, .sipush 621, 3), (13, .iload_n 1, 1), (14, .iadd, 1), (15, .iaload, 1), (16, .goto 13, 3), (19, .aload_n 0, 1), (20, .getfield 7, 3), (23, .sipush 629, 3), (26, .iload_n 1, 1), (27, .iadd, 1), (28, .iaload, 1), (29, .ireturn, 1)]
set_option maxRecDepth 100000 in
theorem T_X11_turnedColumns : ∀ q ∈ I_X11_turnedColumns, decode cX11_turnedColumns q.1 = .ok (q.2.1, q.2.2) := by decide +kernel
def f_X11_turnedColumns_0 (x1 : Int32) (x2 : Int32) (σ : St) : Option (Int32) :=
  chk (nz 2) (if (x2 - x2 / 2 * 2) = 0 then chk (inb (621 + x1) 761) (some (σ 102 (621 + x1).toNatClampNeg)) else chk (inb (629 + x1) 761) (some (σ 102 (629 + x1).toNatClampNeg)))
set_option maxHeartbeats 4000000 in
set_option maxRecDepth 100000 in
theorem w_X11_turnedColumns_0 (X : Cx g RX11 cX11_turnedColumns 3 (some .int) p s m args meth c) (x1 : Int32) (x2 : Int32) (σ : St) {w : Int32} (KR : ∀ (H : Heap) (locs : List Loc) (ls : Array Slot) (pc : Nat), Wd g s σ H locs → decode cX11_turnedColumns pc = .ok (.ireturn, 1) → W p l e (rmm 0 0) s m args below meth c H locs 0 0 Q (F0 m pc ls [.int (w)])) {H : Heap} {locs : List Loc} {ls : Array Slot} (Y : Wd g s σ H locs) (hl : lv_has ls 3 [(0, .ref (g.2.2 (101))), (1, .int (x1)), (2, .int (x2))]) (h : f_X11_turnedColumns_0 x1 x2 σ = some w) : W p l e (rmm 0 0) s m args below meth c H locs 0 0 Q (F0 m 0 ls []) := by
  unfold f_X11_turnedColumns_0 at h
  refine lv_iload_n X.1 X.2.1 (dk T_X11_turnedColumns 0 rfl) rfl (lv_at hl 2 rfl) ?_
  refine lv_iconst (v := 2) X.1 X.2.1 (dk T_X11_turnedColumns 1 rfl) ic_2 ?_
  obtain ⟨g1, h⟩ := gd h
  refine lv_irem X.1 X.2.1 (dk T_X11_turnedColumns 2 rfl) (nzp g1) ?_
  refine lv_if_ne (tgt := 19) X.1 X.2.1 (dk T_X11_turnedColumns 3 rfl) rfl (fun c2 => ?_) (fun c2 => ?_)
  · replace h := ineg c2 h
    refine lv_aload_n X.1 X.2.1 (dk T_X11_turnedColumns 11 rfl) rfl (lv_at hl 0 rfl) ?_
    refine gg X Y fl_X11_7 rfl rfl (dk T_X11_turnedColumns 12 rfl) ?_
    refine lv_sipush (v := 629) X.1 X.2.1 (dk T_X11_turnedColumns 13 rfl) sp_629 ?_
    refine lv_iload_n X.1 X.2.1 (dk T_X11_turnedColumns 14 rfl) rfl (lv_at hl 1 rfl) ?_
    refine lv_iadd X.1 X.2.1 (dk T_X11_turnedColumns 15 rfl) ?_
    obtain ⟨g3, h⟩ := gd h
    refine gil X Y rfl (inp g3) (dk T_X11_turnedColumns 16 rfl) ?_
    obtain rfl := Option.some.inj h
    exact KR _ _ _ _ Y (dk T_X11_turnedColumns 17 rfl)
  · replace h := ipos c2 h
    refine lv_aload_n X.1 X.2.1 (dk T_X11_turnedColumns 4 rfl) rfl (lv_at hl 0 rfl) ?_
    refine gg X Y fl_X11_7 rfl rfl (dk T_X11_turnedColumns 5 rfl) ?_
    refine lv_sipush (v := 621) X.1 X.2.1 (dk T_X11_turnedColumns 6 rfl) sp_621 ?_
    refine lv_iload_n X.1 X.2.1 (dk T_X11_turnedColumns 7 rfl) rfl (lv_at hl 1 rfl) ?_
    refine lv_iadd X.1 X.2.1 (dk T_X11_turnedColumns 8 rfl) ?_
    obtain ⟨g4, h⟩ := gd h
    refine gil X Y rfl (inp g4) (dk T_X11_turnedColumns 9 rfl) ?_
    refine lv_goto (tgt := 29) X.1 X.2.1 (dk T_X11_turnedColumns 10 rfl) rfl ?_
    obtain rfl := Option.some.inj h
    exact KR _ _ _ _ Y (dk T_X11_turnedColumns 17 rfl)
def f_X11_turnedColumns (x1 : Int32) (x2 : Int32) (σ : St) : Option (Int32) := f_X11_turnedColumns_0 x1 x2 σ
set_option maxHeartbeats 4000000 in
set_option maxRecDepth 100000 in
theorem c_X11_turnedColumns {l : Launch} {g : Geo} (x1 : Int32) (x2 : Int32) (σ : St) {w : Int32} (h : f_X11_turnedColumns x1 x2 σ = some w) : CtI l yX11_turnedColumns cX11_turnedColumns 3 (some .int) (rmm 0 0) g [.ref (g.2.2 (101)), .int (x1), .int (x2)] σ w σ := enI .int (by decide) rfl rfl (Nat.le_of_ble_eq_true rfl) (fun p e s m args below meth c Q X Y ls hl KR => w_X11_turnedColumns_0 X x1 x2 σ KR Y hl h)
def I_X11_turnedRows : List (Nat × Instr × Nat) := [(0, .iload_n 2, 1), (1, .iconst 2, 1), (2, .irem, 1), (3, .ifCond .ne 16, 3), (6, .aload_n 0, 1), (7, .getfield 7, 3), (10, .sipush 629, 3), (13, .iload_n 1, 1), (14, .iadd, 1), (15, .iaload, 1), (16, .goto 13, 3), (19, .aload_n 0, 1), (20, .getfield 7, 3), (23, .sipush 621, 3), (26, .iload_n 1, 1), (27, .iadd, 1), (28, .iaload, 1), (29, .ireturn, 1)]
set_option maxRecDepth 100000 in
theorem T_X11_turnedRows : ∀ q ∈ I_X11_turnedRows, decode cX11_turnedRows q.1 = .ok (q.2.1, q.2.2) := by decide +kernel
def f_X11_turnedRows_0 (x1 : Int32) (x2 : Int32) (σ : St) : Option (Int32) :=
  chk (nz 2) (if (x2 - x2 / 2 * 2) = 0 then chk (inb (629 + x1) 761) (some (σ 102 (629 + x1).toNatClampNeg)) else chk (inb (621 + x1) 761) (some (σ 102 (621 + x1).toNatClampNeg)))
set_option maxHeartbeats 4000000 in
set_option maxRecDepth 100000 in
theorem w_X11_turnedRows_0 (X : Cx g RX11 cX11_turnedRows 3 (some .int) p s m args meth c) (x1 : Int32) (x2 : Int32) (σ : St) {w : Int32} (KR : ∀ (H : Heap) (locs : List Loc) (ls : Array Slot) (pc : Nat), Wd g s σ H locs → decode cX11_turnedRows pc = .ok (.ireturn, 1) → W p l e (rmm 0 0) s m args below meth c H locs 0 0 Q (F0 m pc ls [.int (w)])) {H : Heap} {locs : List Loc} {ls : Array Slot} (Y : Wd g s σ H locs) (hl : lv_has ls 3 [(0, .ref (g.2.2 (101))), (1, .int (x1)), (2, .int (x2))]) (h : f_X11_turnedRows_0 x1 x2 σ = some w) : W p l e (rmm 0 0) s m args below meth c H locs 0 0 Q (F0 m 0 ls []) := by
  unfold f_X11_turnedRows_0 at h
  refine lv_iload_n X.1 X.2.1 (dk T_X11_turnedRows 0 rfl) rfl (lv_at hl 2 rfl) ?_
  refine lv_iconst (v := 2) X.1 X.2.1 (dk T_X11_turnedRows 1 rfl) ic_2 ?_
  obtain ⟨g1, h⟩ := gd h
  refine lv_irem X.1 X.2.1 (dk T_X11_turnedRows 2 rfl) (nzp g1) ?_
  refine lv_if_ne (tgt := 19) X.1 X.2.1 (dk T_X11_turnedRows 3 rfl) rfl (fun c2 => ?_) (fun c2 => ?_)
  · replace h := ineg c2 h
    refine lv_aload_n X.1 X.2.1 (dk T_X11_turnedRows 11 rfl) rfl (lv_at hl 0 rfl) ?_
    refine gg X Y fl_X11_7 rfl rfl (dk T_X11_turnedRows 12 rfl) ?_
    refine lv_sipush (v := 621) X.1 X.2.1 (dk T_X11_turnedRows 13 rfl) sp_621 ?_
    refine lv_iload_n X.1 X.2.1 (dk T_X11_turnedRows 14 rfl) rfl (lv_at hl 1 rfl) ?_
    refine lv_iadd X.1 X.2.1 (dk T_X11_turnedRows 15 rfl) ?_
    obtain ⟨g3, h⟩ := gd h
    refine gil X Y rfl (inp g3) (dk T_X11_turnedRows 16 rfl) ?_
    obtain rfl := Option.some.inj h
    exact KR _ _ _ _ Y (dk T_X11_turnedRows 17 rfl)
  · replace h := ipos c2 h
    refine lv_aload_n X.1 X.2.1 (dk T_X11_turnedRows 4 rfl) rfl (lv_at hl 0 rfl) ?_
    refine gg X Y fl_X11_7 rfl rfl (dk T_X11_turnedRows 5 rfl) ?_
    refine lv_sipush (v := 629) X.1 X.2.1 (dk T_X11_turnedRows 6 rfl) sp_629 ?_
    refine lv_iload_n X.1 X.2.1 (dk T_X11_turnedRows 7 rfl) rfl (lv_at hl 1 rfl) ?_
    refine lv_iadd X.1 X.2.1 (dk T_X11_turnedRows 8 rfl) ?_
    obtain ⟨g4, h⟩ := gd h
    refine gil X Y rfl (inp g4) (dk T_X11_turnedRows 9 rfl) ?_
    refine lv_goto (tgt := 29) X.1 X.2.1 (dk T_X11_turnedRows 10 rfl) rfl ?_
    obtain rfl := Option.some.inj h
    exact KR _ _ _ _ Y (dk T_X11_turnedRows 17 rfl)
def f_X11_turnedRows (x1 : Int32) (x2 : Int32) (σ : St) : Option (Int32) := f_X11_turnedRows_0 x1 x2 σ
set_option maxHeartbeats 4000000 in
set_option maxRecDepth 100000 in
theorem c_X11_turnedRows {l : Launch} {g : Geo} (x1 : Int32) (x2 : Int32) (σ : St) {w : Int32} (h : f_X11_turnedRows x1 x2 σ = some w) : CtI l yX11_turnedRows cX11_turnedRows 3 (some .int) (rmm 0 0) g [.ref (g.2.2 (101)), .int (x1), .int (x2)] σ w σ := enI .int (by decide) rfl rfl (Nat.le_of_ble_eq_true rfl) (fun p e s m args below meth c Q X Y ls hl KR => w_X11_turnedRows_0 X x1 x2 σ KR Y hl h)
def I_X11_quarter : List (Nat × Instr × Nat) := [(0, .iconst 0, 1), (1, .istore_n 3, 1), (2, .iconst 0, 1), (3, .istore 4, 2), (5, .iload 4, 2), (7, .iload_n 0, 1), (8, .if_icmp .ge 60, 3), (11, .iconst 0, 1), (12, .istore 5, 2), (14, .iload 5, 2), (16, .iload_n 1, 1), (17, .if_icmp .ge 45, 3), (20, .iload_n 3, 1), (21, .iload_n 2, 1), (22, .iload_n 0, 1), (23, .iload 4, 2), (25, .iload_n 1, 1), (26, .iconst 1, 1), (27, .isub, 1), (28, .iload 5, 2), (30, .isub, 1), (31, .invokestatic 102, 3), (34, .invokestatic 105, 3), (37, .ifCond .eq 16, 3), (40, .iconst 1, 1), (41, .iload_n 1, 1), (42, .iload 5, 2), (44, .iload 4, 2), (46, .invokestatic 102, 3), (49, .ishl, 1), (50, .goto 4, 3), (53, .iconst 0, 1), (54, .ior, 1), (55, .istore_n 3, 1), (56, .iinc 5 1, 3), (59, .goto (-45), 3), (62, .iinc 4 1, 3), (65, .goto (-60), 3), (68, .iload_n 3, 1), (69, .ireturn, 1)]
set_option maxRecDepth 100000 in
theorem T_X11_quarter : ∀ q ∈ I_X11_quarter, decode cX11_quarter q.1 = .ok (q.2.1, q.2.2) := by decide +kernel
def f_X11_quarter_j54 (x0 : Int32) (x1 : Int32) (x2 : Int32) (x4 : Int32) (x5 : Int32) (s0 : Int32) (s1 : Int32) : Option ((Int32 × Int32) ⊕ (Int32)) :=
  some (.inl (s1 ||| s0, x5 + 1))
set_option maxHeartbeats 4000000 in
set_option maxRecDepth 100000 in
theorem w_X11_quarter_j54 (X : Cx g RX11 cX11_quarter 6 (some .int) p s m args meth c) (x0 : Int32) (x1 : Int32) (x2 : Int32) (x4 : Int32) (x5 : Int32) (s0 : Int32) (s1 : Int32) (σ : St) {w : (Int32 × Int32) ⊕ (Int32)} (KB : ∀ (v0_ : Int32) (v1_ : Int32), w = .inl (v0_, v1_) → ∀ (H : Heap) (locs : List Loc) (ls : Array Slot), Wd g s σ H locs → lv_has ls 6 [(0, .int (x0)), (1, .int (x1)), (2, .int (x2)), (3, .int (v0_)), (4, .int (x4)), (5, .int (v1_))] → W p l e (rmm 1 22) s m args below meth c H locs 0 0 Q (F0 m 14 ls [])) (KX0 : ∀ (v : Int32), w = .inr v → ∀ (H : Heap) (locs : List Loc) (ls : Array Slot), Wd g s σ H locs → lv_has ls 6 [(0, .int (x0)), (1, .int (x1)), (2, .int (x2)), (3, .int (v)), (4, .int (x4))] → W p l e (rmm 1 22) s m args below meth c H locs 0 0 Q (F0 m 62 ls [])) {H : Heap} {locs : List Loc} {ls : Array Slot} (Y : Wd g s σ H locs) (hl : lv_has ls 6 [(0, .int (x0)), (1, .int (x1)), (2, .int (x2)), (4, .int (x4)), (5, .int (x5))]) (h : f_X11_quarter_j54 x0 x1 x2 x4 x5 s0 s1 = some w) : W p l e (rmm 1 22) s m args below meth c H locs 0 0 Q (F0 m 54 ls [.int (s0), .int (s1)]) := by
  unfold f_X11_quarter_j54 at h
  refine lv_ior X.1 X.2.1 (dk T_X11_quarter 32 rfl) ?_
  refine lv_istore_n (lv' := [(3, .int (s1 ||| s0)), (0, .int (x0)), (1, .int (x1)), (2, .int (x2)), (4, .int (x4)), (5, .int (x5))]) X.1 X.2.1 (dk T_X11_quarter 33 rfl) rfl hl (Nat.le_of_ble_eq_true rfl) rfl (fun ls hl => ?_)
  refine lv_iinc (v := x5 + 1) (lv' := [(5, .int (x5 + 1)), (3, .int (s1 ||| s0)), (0, .int (x0)), (1, .int (x1)), (2, .int (x2)), (4, .int (x4))]) X.1 X.2.1 (dk T_X11_quarter 34 rfl) hl (k := 5) rfl (icx ic_1) (Nat.le_of_ble_eq_true rfl) rfl (fun ls hl => ?_)
  refine lv_goto (tgt := 14) X.1 X.2.1 (dk T_X11_quarter 35 rfl) rfl ?_
  exact KB (s1 ||| s0) (x5 + 1) (Option.some.inj h).symm _ _ _ Y (lv_sub hl [2, 3, 4, 1, 5, 0] rfl)
def f_X11_quarter_l14 (x0 : Int32) (x1 : Int32) (x2 : Int32) (x4 : Int32) (z : Int32 × Int32) : Option ((Int32 × Int32) ⊕ (Int32)) :=
  if x1 ≤ z.2 then some (.inr z.1) else (f_X11_at x0 x4 ((x1 - 1) - z.2)).bind fun q3 => (f_X11_has x2 q3).bind fun q4 => if q4 = 0 then f_X11_quarter_j54 x0 x1 x2 x4 z.2 0 z.1 else (f_X11_at x1 z.2 x4).bind fun q6 => f_X11_quarter_j54 x0 x1 x2 x4 z.2 ((1 : Int32) <<< (q6 &&& 31)) z.1
set_option maxHeartbeats 4000000 in
set_option maxRecDepth 100000 in
theorem w_X11_quarter_l14 (X : Cx g RX11 cX11_quarter 6 (some .int) p s m args meth c) (x0 : Int32) (x1 : Int32) (x2 : Int32) (x4 : Int32) (σ : St) {r : Int32} (KX0 : ∀ (v : Int32), r = v → ∀ (H : Heap) (locs : List Loc) (ls : Array Slot), Wd g s σ H locs → lv_has ls 6 [(0, .int (x0)), (1, .int (x1)), (2, .int (x2)), (3, .int (v)), (4, .int (x4))] → W p l e (rmm 1 22) s m args below meth c H locs 0 0 Q (F0 m 62 ls [])) : ∀ (n : Nat) (z : Int32 × Int32) {H : Heap} {locs : List Loc} {ls : Array Slot}, Wd g s σ H locs → lv_has ls 6 [(0, .int (x0)), (1, .int (x1)), (2, .int (x2)), (3, .int (z.1)), (4, .int (x4)), (5, .int (z.2))] → lp (f_X11_quarter_l14 x0 x1 x2 x4) n z = some r → W p l e (rmm 1 22) s m args below meth c H locs 0 0 Q (F0 m 14 ls []) := by
  intro n
  induction n with
  | zero => intro z H locs ls Y hl h; cases h
  | succ n ih =>
    intro z H locs ls Y hl h
    obtain ⟨w, h, hw⟩ := lps h
    have KB : ∀ (v0_ : Int32) (v1_ : Int32), w = .inl (v0_, v1_) → ∀ (H : Heap) (locs : List Loc) (ls : Array Slot), Wd g s σ H locs → lv_has ls 6 [(0, .int (x0)), (1, .int (x1)), (2, .int (x2)), (3, .int (v0_)), (4, .int (x4)), (5, .int (v1_))] → W p l e (rmm 1 22) s m args below meth c H locs 0 0 Q (F0 m 14 ls []) := fun v0_ v1_ e H locs ls Y hl => ih (v0_, v1_) Y hl (lpl hw e)
    have KX0 := fun (v : Int32) (e : w = .inr v) => KX0 v (lpr hw e)
    unfold f_X11_quarter_l14 at h
    refine lv_iload X.1 X.2.1 (dk T_X11_quarter 9 rfl) (lv_at hl 5 rfl) ?_
    refine lv_iload_n X.1 X.2.1 (dk T_X11_quarter 10 rfl) rfl (lv_at hl 1 rfl) ?_
    refine lv_icmp_ge (tgt := 62) X.1 X.2.1 (dk T_X11_quarter 11 rfl) rfl (fun c2 => ?_) (fun c2 => ?_)
    · replace h := ipos c2 h
      exact KX0 z.1 (Option.some.inj h).symm _ _ _ Y (lv_sub hl [0, 1, 2, 3, 4] rfl)
    · replace h := ineg c2 h
      refine lv_iload_n X.1 X.2.1 (dk T_X11_quarter 12 rfl) rfl (lv_at hl 3 rfl) ?_
      refine lv_iload_n X.1 X.2.1 (dk T_X11_quarter 13 rfl) rfl (lv_at hl 2 rfl) ?_
      refine lv_iload_n X.1 X.2.1 (dk T_X11_quarter 14 rfl) rfl (lv_at hl 0 rfl) ?_
      refine lv_iload X.1 X.2.1 (dk T_X11_quarter 15 rfl) (lv_at hl 4 rfl) ?_
      refine lv_iload_n X.1 X.2.1 (dk T_X11_quarter 16 rfl) rfl (lv_at hl 1 rfl) ?_
      refine lv_iconst (v := 1) X.1 X.2.1 (dk T_X11_quarter 17 rfl) ic_1 ?_
      refine lv_isub X.1 X.2.1 (dk T_X11_quarter 18 rfl) ?_
      refine lv_iload X.1 X.2.1 (dk T_X11_quarter 19 rfl) (lv_at hl 5 rfl) ?_
      refine lv_isub X.1 X.2.1 (dk T_X11_quarter 20 rfl) ?_
      obtain ⟨q3, hq3, h⟩ := bs h
      refine gsI (rest := [.int (x2), .int (z.1)]) X Y (c_X11_at x0 x4 ((x1 - 1) - z.2) σ hq3) cb_X11_102 hl.1 rfl rfl (Nat.le_of_ble_eq_true rfl) ⟨Nat.le_of_ble_eq_true rfl, Nat.le_of_ble_eq_true rfl⟩ (dk T_X11_quarter 21 rfl) (fun H locs Y => ?_)
      obtain ⟨q4, hq4, h⟩ := bs h
      refine gsI (rest := [.int (z.1)]) X Y (c_X11_has x2 q3 σ hq4) cb_X11_105 hl.1 rfl rfl (Nat.le_of_ble_eq_true rfl) ⟨Nat.le_of_ble_eq_true rfl, Nat.le_of_ble_eq_true rfl⟩ (dk T_X11_quarter 22 rfl) (fun H locs Y => ?_)
      refine lv_if_eq (tgt := 53) X.1 X.2.1 (dk T_X11_quarter 23 rfl) rfl (fun c5 => ?_) (fun c5 => ?_)
      · replace h := ipos c5 h
        refine lv_iconst (v := 0) X.1 X.2.1 (dk T_X11_quarter 31 rfl) ic_0 ?_
        exact w_X11_quarter_j54 X x0 x1 x2 x4 z.2 0 z.1 σ KB KX0 Y (lv_sub hl [0, 1, 2, 4, 5] rfl) h
      · replace h := ineg c5 h
        refine lv_iconst (v := 1) X.1 X.2.1 (dk T_X11_quarter 24 rfl) ic_1 ?_
        refine lv_iload_n X.1 X.2.1 (dk T_X11_quarter 25 rfl) rfl (lv_at hl 1 rfl) ?_
        refine lv_iload X.1 X.2.1 (dk T_X11_quarter 26 rfl) (lv_at hl 5 rfl) ?_
        refine lv_iload X.1 X.2.1 (dk T_X11_quarter 27 rfl) (lv_at hl 4 rfl) ?_
        obtain ⟨q6, hq6, h⟩ := bs h
        refine gsI (rest := [.int (1), .int (z.1)]) X Y (c_X11_at x1 z.2 x4 σ hq6) cb_X11_102 hl.1 rfl rfl (Nat.le_of_ble_eq_true rfl) ⟨Nat.le_of_ble_eq_true rfl, Nat.le_of_ble_eq_true rfl⟩ (dk T_X11_quarter 28 rfl) (fun H locs Y => ?_)
        refine lv_ishl X.1 X.2.1 (dk T_X11_quarter 29 rfl) ?_
        refine lv_goto (tgt := 54) X.1 X.2.1 (dk T_X11_quarter 30 rfl) rfl ?_
        exact w_X11_quarter_j54 X x0 x1 x2 x4 z.2 ((1 : Int32) <<< (q6 &&& 31)) z.1 σ KB KX0 Y (lv_sub hl [0, 1, 2, 4, 5] rfl) h
def f_X11_quarter_l5 (x0 : Int32) (x1 : Int32) (x2 : Int32) (z : Int32 × Int32) : Option ((Int32 × Int32) ⊕ (Int32)) :=
  if x0 ≤ z.2 then some (.inr z.1) else (lp (f_X11_quarter_l14 x0 x1 x2 z.2) FU (z.1, 0)).bind fun q7 => some (.inl (q7, z.2 + 1))
set_option maxHeartbeats 4000000 in
set_option maxRecDepth 100000 in
theorem w_X11_quarter_l5 (X : Cx g RX11 cX11_quarter 6 (some .int) p s m args meth c) (x0 : Int32) (x1 : Int32) (x2 : Int32) (σ : St) {r : Int32} (KX0 : ∀ (v : Int32), r = v → ∀ (H : Heap) (locs : List Loc) (ls : Array Slot), Wd g s σ H locs → lv_has ls 6 [(3, .int (v))] → W p l e (rmm 1 22) s m args below meth c H locs 0 0 Q (F0 m 68 ls [])) : ∀ (n : Nat) (z : Int32 × Int32) {H : Heap} {locs : List Loc} {ls : Array Slot}, Wd g s σ H locs → lv_has ls 6 [(0, .int (x0)), (1, .int (x1)), (2, .int (x2)), (3, .int (z.1)), (4, .int (z.2))] → lp (f_X11_quarter_l5 x0 x1 x2) n z = some r → W p l e (rmm 1 22) s m args below meth c H locs 0 0 Q (F0 m 5 ls []) := by
  intro n
  induction n with
  | zero => intro z H locs ls Y hl h; cases h
  | succ n ih =>
    intro z H locs ls Y hl h
    obtain ⟨w, h, hw⟩ := lps h
    have KB : ∀ (v0_ : Int32) (v1_ : Int32), w = .inl (v0_, v1_) → ∀ (H : Heap) (locs : List Loc) (ls : Array Slot), Wd g s σ H locs → lv_has ls 6 [(0, .int (x0)), (1, .int (x1)), (2, .int (x2)), (3, .int (v0_)), (4, .int (v1_))] → W p l e (rmm 1 22) s m args below meth c H locs 0 0 Q (F0 m 5 ls []) := fun v0_ v1_ e H locs ls Y hl => ih (v0_, v1_) Y hl (lpl hw e)
    have KX0 := fun (v : Int32) (e : w = .inr v) => KX0 v (lpr hw e)
    unfold f_X11_quarter_l5 at h
    refine lv_iload X.1 X.2.1 (dk T_X11_quarter 4 rfl) (lv_at hl 4 rfl) ?_
    refine lv_iload_n X.1 X.2.1 (dk T_X11_quarter 5 rfl) rfl (lv_at hl 0 rfl) ?_
    refine lv_icmp_ge (tgt := 68) X.1 X.2.1 (dk T_X11_quarter 6 rfl) rfl (fun c1 => ?_) (fun c1 => ?_)
    · replace h := ipos c1 h
      exact KX0 z.1 (Option.some.inj h).symm _ _ _ Y (lv_sub hl [3] rfl)
    · replace h := ineg c1 h
      refine lv_iconst (v := 0) X.1 X.2.1 (dk T_X11_quarter 7 rfl) ic_0 ?_
      refine lv_istore (lv' := [(5, .int (0)), (0, .int (x0)), (1, .int (x1)), (2, .int (x2)), (3, .int (z.1)), (4, .int (z.2))]) X.1 X.2.1 (dk T_X11_quarter 8 rfl) hl (Nat.le_of_ble_eq_true rfl) rfl (fun ls hl => ?_)
      obtain ⟨q7, hq7, h⟩ := bs h
      refine w_X11_quarter_l14 X x0 x1 x2 z.2 σ (fun v e H locs ls Y hl => ?_) FU (z.1, 0) Y (lv_sub hl [1, 2, 3, 4, 5, 0] rfl) hq7
      · obtain rfl := e
        refine lv_iinc (v := z.2 + 1) (lv' := [(4, .int (z.2 + 1)), (0, .int (x0)), (1, .int (x1)), (2, .int (x2)), (3, .int (q7))]) X.1 X.2.1 (dk T_X11_quarter 36 rfl) hl (k := 4) rfl (icx ic_1) (Nat.le_of_ble_eq_true rfl) rfl (fun ls hl => ?_)
        refine lv_goto (tgt := 5) X.1 X.2.1 (dk T_X11_quarter 37 rfl) rfl ?_
        exact KB q7 (z.2 + 1) (Option.some.inj h).symm _ _ _ Y (lv_sub hl [1, 2, 3, 4, 0] rfl)
def f_X11_quarter_0 (x0 : Int32) (x1 : Int32) (x2 : Int32) : Option (Int32) :=
  (lp (f_X11_quarter_l5 x0 x1 x2) FU (0, 0)).bind fun q8 => some q8
set_option maxHeartbeats 4000000 in
set_option maxRecDepth 100000 in
theorem w_X11_quarter_0 (X : Cx g RX11 cX11_quarter 6 (some .int) p s m args meth c) (x0 : Int32) (x1 : Int32) (x2 : Int32) (σ : St) {w : Int32} (KR : ∀ (H : Heap) (locs : List Loc) (ls : Array Slot) (pc : Nat), Wd g s σ H locs → decode cX11_quarter pc = .ok (.ireturn, 1) → W p l e (rmm 1 22) s m args below meth c H locs 0 0 Q (F0 m pc ls [.int (w)])) {H : Heap} {locs : List Loc} {ls : Array Slot} (Y : Wd g s σ H locs) (hl : lv_has ls 6 [(0, .int (x0)), (1, .int (x1)), (2, .int (x2))]) (h : f_X11_quarter_0 x0 x1 x2 = some w) : W p l e (rmm 1 22) s m args below meth c H locs 0 0 Q (F0 m 0 ls []) := by
  unfold f_X11_quarter_0 at h
  refine lv_iconst (v := 0) X.1 X.2.1 (dk T_X11_quarter 0 rfl) ic_0 ?_
  refine lv_istore_n (lv' := [(3, .int (0)), (0, .int (x0)), (1, .int (x1)), (2, .int (x2))]) X.1 X.2.1 (dk T_X11_quarter 1 rfl) rfl hl (Nat.le_of_ble_eq_true rfl) rfl (fun ls hl => ?_)
  refine lv_iconst (v := 0) X.1 X.2.1 (dk T_X11_quarter 2 rfl) ic_0 ?_
  refine lv_istore (lv' := [(4, .int (0)), (3, .int (0)), (0, .int (x0)), (1, .int (x1)), (2, .int (x2))]) X.1 X.2.1 (dk T_X11_quarter 3 rfl) hl (Nat.le_of_ble_eq_true rfl) rfl (fun ls hl => ?_)
  obtain ⟨q8, hq8, h⟩ := bs h
  refine w_X11_quarter_l5 X x0 x1 x2 σ (fun v e H locs ls Y hl => ?_) FU (0, 0) Y (lv_sub hl [2, 3, 4, 1, 0] rfl) hq8
  · obtain rfl := e
    refine lv_iload_n X.1 X.2.1 (dk T_X11_quarter 38 rfl) rfl (lv_at hl 0 rfl) ?_
    obtain rfl := Option.some.inj h
    exact KR _ _ _ _ Y (dk T_X11_quarter 39 rfl)
def f_X11_quarter (x0 : Int32) (x1 : Int32) (x2 : Int32) : Option (Int32) := f_X11_quarter_0 x0 x1 x2
set_option maxHeartbeats 4000000 in
set_option maxRecDepth 100000 in
theorem c_X11_quarter {l : Launch} {g : Geo} (x0 : Int32) (x1 : Int32) (x2 : Int32) (σ : St) {w : Int32} (h : f_X11_quarter x0 x1 x2 = some w) : CtI l yX11_quarter cX11_quarter 6 (some .int) (rmm 1 22) g [.int (x0), .int (x1), .int (x2)] σ w σ := enI .int (by decide) rfl rfl (Nat.le_of_ble_eq_true rfl) (fun p e s m args below meth c Q X Y ls hl KR => w_X11_quarter_0 X x0 x1 x2 σ KR Y hl h)
def I_X11_turnedSet : List (Nat × Instr × Nat) := [(0, .aload_n 0, 1), (1, .getfield 7, 3), (4, .sipush 637, 3), (7, .iload_n 1, 1), (8, .iadd, 1), (9, .iaload, 1), (10, .istore_n 3, 1), (11, .iconst 0, 1), (12, .istore 4, 2), (14, .iload 4, 2), (16, .iload_n 2, 1), (17, .if_icmp .ge 28, 3), (20, .aload_n 0, 1), (21, .iload_n 1, 1), (22, .iload 4, 2), (24, .invokevirtual 126, 3), (27, .aload_n 0, 1), (28, .iload_n 1, 1), (29, .iload 4, 2), (31, .invokevirtual 130, 3), (34, .iload_n 3, 1), (35, .invokestatic 133, 3), (38, .istore_n 3, 1), (39, .iinc 4 1, 3), (42, .goto (-28), 3), (45, .iload_n 3, 1), (46, .ireturn, 1)]
set_option maxRecDepth 100000 in
theorem T_X11_turnedSet : ∀ q ∈ I_X11_turnedSet, decode cX11_turnedSet q.1 = .ok (q.2.1, q.2.2) := by decide +kernel
def f_X11_turnedSet_l14 (x1 : Int32) (x2 : Int32) (σ : St) (z : Int32 × Int32) : Option ((Int32 × Int32) ⊕ (Int32)) :=
  if x2 ≤ z.2 then some (.inr z.1) else (f_X11_turnedColumns x1 z.2 σ).bind fun q3 => (f_X11_turnedRows x1 z.2 σ).bind fun q4 => (f_X11_quarter q3 q4 z.1).bind fun q5 => some (.inl (q5, z.2 + 1))
set_option maxHeartbeats 4000000 in
set_option maxRecDepth 100000 in
theorem w_X11_turnedSet_l14 (X : Cx g RX11 cX11_turnedSet 5 (some .int) p s m args meth c) (x1 : Int32) (x2 : Int32) (σ : St) {r : Int32} (KX0 : ∀ (v : Int32), r = v → ∀ (H : Heap) (locs : List Loc) (ls : Array Slot), Wd g s σ H locs → lv_has ls 5 [(3, .int (v))] → W p l e (rmm 2 47) s m args below meth c H locs 0 0 Q (F0 m 45 ls [])) : ∀ (n : Nat) (z : Int32 × Int32) {H : Heap} {locs : List Loc} {ls : Array Slot}, Wd g s σ H locs → lv_has ls 5 [(0, .ref (g.2.2 (101))), (1, .int (x1)), (2, .int (x2)), (3, .int (z.1)), (4, .int (z.2))] → lp (f_X11_turnedSet_l14 x1 x2 σ) n z = some r → W p l e (rmm 2 47) s m args below meth c H locs 0 0 Q (F0 m 14 ls []) := by
  intro n
  induction n with
  | zero => intro z H locs ls Y hl h; cases h
  | succ n ih =>
    intro z H locs ls Y hl h
    obtain ⟨w, h, hw⟩ := lps h
    have KB : ∀ (v0_ : Int32) (v1_ : Int32), w = .inl (v0_, v1_) → ∀ (H : Heap) (locs : List Loc) (ls : Array Slot), Wd g s σ H locs → lv_has ls 5 [(0, .ref (g.2.2 (101))), (1, .int (x1)), (2, .int (x2)), (3, .int (v0_)), (4, .int (v1_))] → W p l e (rmm 2 47) s m args below meth c H locs 0 0 Q (F0 m 14 ls []) := fun v0_ v1_ e H locs ls Y hl => ih (v0_, v1_) Y hl (lpl hw e)
    have KX0 := fun (v : Int32) (e : w = .inr v) => KX0 v (lpr hw e)
    unfold f_X11_turnedSet_l14 at h
    refine lv_iload X.1 X.2.1 (dk T_X11_turnedSet 9 rfl) (lv_at hl 4 rfl) ?_
    refine lv_iload_n X.1 X.2.1 (dk T_X11_turnedSet 10 rfl) rfl (lv_at hl 2 rfl) ?_
    refine lv_icmp_ge (tgt := 45) X.1 X.2.1 (dk T_X11_turnedSet 11 rfl) rfl (fun c2 => ?_) (fun c2 => ?_)
    · replace h := ipos c2 h
      exact KX0 z.1 (Option.some.inj h).symm _ _ _ Y (lv_sub hl [3] rfl)
    · replace h := ineg c2 h
      refine lv_aload_n X.1 X.2.1 (dk T_X11_turnedSet 12 rfl) rfl (lv_at hl 0 rfl) ?_
      refine lv_iload_n X.1 X.2.1 (dk T_X11_turnedSet 13 rfl) rfl (lv_at hl 1 rfl) ?_
      refine lv_iload X.1 X.2.1 (dk T_X11_turnedSet 14 rfl) (lv_at hl 4 rfl) ?_
      obtain ⟨q3, hq3, h⟩ := bs h
      refine gvI (rest := []) X Y (c_X11_turnedColumns x1 z.2 σ hq3) cb_X11_126 rfl hl.1 rfl rfl (Nat.le_of_ble_eq_true rfl) ⟨Nat.le_of_ble_eq_true rfl, Nat.le_of_ble_eq_true rfl⟩ (dk T_X11_turnedSet 15 rfl) (fun H locs Y => ?_)
      refine lv_aload_n X.1 X.2.1 (dk T_X11_turnedSet 16 rfl) rfl (lv_at hl 0 rfl) ?_
      refine lv_iload_n X.1 X.2.1 (dk T_X11_turnedSet 17 rfl) rfl (lv_at hl 1 rfl) ?_
      refine lv_iload X.1 X.2.1 (dk T_X11_turnedSet 18 rfl) (lv_at hl 4 rfl) ?_
      obtain ⟨q4, hq4, h⟩ := bs h
      refine gvI (rest := [.int (q3)]) X Y (c_X11_turnedRows x1 z.2 σ hq4) cb_X11_130 rfl hl.1 rfl rfl (Nat.le_of_ble_eq_true rfl) ⟨Nat.le_of_ble_eq_true rfl, Nat.le_of_ble_eq_true rfl⟩ (dk T_X11_turnedSet 19 rfl) (fun H locs Y => ?_)
      refine lv_iload_n X.1 X.2.1 (dk T_X11_turnedSet 20 rfl) rfl (lv_at hl 3 rfl) ?_
      obtain ⟨q5, hq5, h⟩ := bs h
      refine gsI (rest := []) X Y (c_X11_quarter q3 q4 z.1 σ hq5) cb_X11_133 hl.1 rfl rfl (Nat.le_of_ble_eq_true rfl) ⟨Nat.le_of_ble_eq_true rfl, Nat.le_of_ble_eq_true rfl⟩ (dk T_X11_turnedSet 21 rfl) (fun H locs Y => ?_)
      refine lv_istore_n (lv' := [(3, .int (q5)), (0, .ref (g.2.2 (101))), (1, .int (x1)), (2, .int (x2)), (4, .int (z.2))]) X.1 X.2.1 (dk T_X11_turnedSet 22 rfl) rfl hl (Nat.le_of_ble_eq_true rfl) rfl (fun ls hl => ?_)
      refine lv_iinc (v := z.2 + 1) (lv' := [(4, .int (z.2 + 1)), (3, .int (q5)), (0, .ref (g.2.2 (101))), (1, .int (x1)), (2, .int (x2))]) X.1 X.2.1 (dk T_X11_turnedSet 23 rfl) hl (k := 4) rfl (icx ic_1) (Nat.le_of_ble_eq_true rfl) rfl (fun ls hl => ?_)
      refine lv_goto (tgt := 14) X.1 X.2.1 (dk T_X11_turnedSet 24 rfl) rfl ?_
      exact KB q5 (z.2 + 1) (Option.some.inj h).symm _ _ _ Y (lv_sub hl [2, 3, 4, 1, 0] rfl)
def f_X11_turnedSet_0 (x1 : Int32) (x2 : Int32) (σ : St) : Option (Int32) :=
  chk (inb (637 + x1) 761) ((lp (f_X11_turnedSet_l14 x1 x2 σ) FU (σ 102 (637 + x1).toNatClampNeg, 0)).bind fun q6 => some q6)
set_option maxHeartbeats 4000000 in
set_option maxRecDepth 100000 in
theorem w_X11_turnedSet_0 (X : Cx g RX11 cX11_turnedSet 5 (some .int) p s m args meth c) (x1 : Int32) (x2 : Int32) (σ : St) {w : Int32} (KR : ∀ (H : Heap) (locs : List Loc) (ls : Array Slot) (pc : Nat), Wd g s σ H locs → decode cX11_turnedSet pc = .ok (.ireturn, 1) → W p l e (rmm 2 47) s m args below meth c H locs 0 0 Q (F0 m pc ls [.int (w)])) {H : Heap} {locs : List Loc} {ls : Array Slot} (Y : Wd g s σ H locs) (hl : lv_has ls 5 [(0, .ref (g.2.2 (101))), (1, .int (x1)), (2, .int (x2))]) (h : f_X11_turnedSet_0 x1 x2 σ = some w) : W p l e (rmm 2 47) s m args below meth c H locs 0 0 Q (F0 m 0 ls []) := by
  unfold f_X11_turnedSet_0 at h
  refine lv_aload_n X.1 X.2.1 (dk T_X11_turnedSet 0 rfl) rfl (lv_at hl 0 rfl) ?_
  refine gg X Y fl_X11_7 rfl rfl (dk T_X11_turnedSet 1 rfl) ?_
  refine lv_sipush (v := 637) X.1 X.2.1 (dk T_X11_turnedSet 2 rfl) sp_637 ?_
  refine lv_iload_n X.1 X.2.1 (dk T_X11_turnedSet 3 rfl) rfl (lv_at hl 1 rfl) ?_
  refine lv_iadd X.1 X.2.1 (dk T_X11_turnedSet 4 rfl) ?_
  obtain ⟨g1, h⟩ := gd h
  refine gil X Y rfl (inp g1) (dk T_X11_turnedSet 5 rfl) ?_
  refine lv_istore_n (lv' := [(3, .int (σ 102 (637 + x1).toNatClampNeg)), (0, .ref (g.2.2 (101))), (1, .int (x1)), (2, .int (x2))]) X.1 X.2.1 (dk T_X11_turnedSet 6 rfl) rfl hl (Nat.le_of_ble_eq_true rfl) rfl (fun ls hl => ?_)
  refine lv_iconst (v := 0) X.1 X.2.1 (dk T_X11_turnedSet 7 rfl) ic_0 ?_
  refine lv_istore (lv' := [(4, .int (0)), (3, .int (σ 102 (637 + x1).toNatClampNeg)), (0, .ref (g.2.2 (101))), (1, .int (x1)), (2, .int (x2))]) X.1 X.2.1 (dk T_X11_turnedSet 8 rfl) hl (Nat.le_of_ble_eq_true rfl) rfl (fun ls hl => ?_)
  obtain ⟨q6, hq6, h⟩ := bs h
  refine w_X11_turnedSet_l14 X x1 x2 σ (fun v e H locs ls Y hl => ?_) FU (σ 102 (637 + x1).toNatClampNeg, 0) Y (lv_sub hl [2, 3, 4, 1, 0] rfl) hq6
  · obtain rfl := e
    refine lv_iload_n X.1 X.2.1 (dk T_X11_turnedSet 25 rfl) rfl (lv_at hl 0 rfl) ?_
    obtain rfl := Option.some.inj h
    exact KR _ _ _ _ Y (dk T_X11_turnedSet 26 rfl)
def f_X11_turnedSet (x1 : Int32) (x2 : Int32) (σ : St) : Option (Int32) := f_X11_turnedSet_0 x1 x2 σ
set_option maxHeartbeats 4000000 in
set_option maxRecDepth 100000 in
theorem c_X11_turnedSet {l : Launch} {g : Geo} (x1 : Int32) (x2 : Int32) (σ : St) {w : Int32} (h : f_X11_turnedSet x1 x2 σ = some w) : CtI l yX11_turnedSet cX11_turnedSet 5 (some .int) (rmm 2 47) g [.ref (g.2.2 (101)), .int (x1), .int (x2)] σ w σ := enI .int (by decide) rfl rfl (Nat.le_of_ble_eq_true rfl) (fun p e s m args below meth c Q X Y ls hl KR => w_X11_turnedSet_0 X x1 x2 σ KR Y hl h)
def I_X11_cellOf : List (Nat × Instr × Nat) := [(0, .aload_n 0, 1), (1, .aload_n 0, 1), (2, .getfield 7, 3), (5, .sipush 661, 3), (8, .iload_n 1, 1), (9, .iadd, 1), (10, .iaload, 1), (11, .aload_n 0, 1), (12, .getfield 7, 3), (15, .sipush 741, 3), (18, .iload_n 1, 1), (19, .iadd, 1), (20, .iaload, 1), (21, .invokevirtual 126, 3), (24, .istore_n 3, 1), (25, .aload_n 0, 1), (26, .getfield 7, 3), (29, .iconst 3, 1), (30, .aload_n 0, 1), (31, .getfield 7, 3), (34, .sipush 681, 3), (37, .iload_n 1, 1), (38, .iadd, 1), (39, .iaload, 1), (40, .iadd, 1), (41, .iaload, 1), (42, .aload_n 0, 1), (43, .getfield 7, 3), (46, .sipush 701, 3), (49, .iload_n 1, 1), (50, .iadd, 1), (51, .iaload, 1), (52, .iload_n 2, 1), (53, .iload_n 3, 1), (54, .irem, 1), (55, .iadd, 1), (56, .aload_n 0, 1), (57, .getfield 7, 3), (60, .sipush 721, 3), (63, .iload_n 1, 1), (64, .iadd, 1), (65, .iaload, 1), (66, .iload_n 2, 1), (67, .iload_n 3, 1), (68, .idiv, 1), (69, .iadd, 1), (70, .invokestatic 102, 3), (73, .ireturn, 1)]
set_option maxRecDepth 100000 in
theorem T_X11_cellOf : ∀ q ∈ I_X11_cellOf, decode cX11_cellOf q.1 = .ok (q.2.1, q.2.2) := by decide +kernel
def f_X11_cellOf_0 (x1 : Int32) (x2 : Int32) (σ : St) : Option (Int32) :=
  chk (inb (661 + x1) 761) (chk (inb (741 + x1) 761) ((f_X11_turnedColumns (σ 102 (661 + x1).toNatClampNeg) (σ 102 (741 + x1).toNatClampNeg) σ).bind fun q3 => chk (inb (681 + x1) 761) (chk (inb (3 + (σ 102 (681 + x1).toNatClampNeg)) 761) (chk (inb (701 + x1) 761) (chk (nz q3) (chk (inb (721 + x1) 761) (chk (nz q3) ((f_X11_at (σ 102 (3 + (σ 102 (681 + x1).toNatClampNeg)).toNatClampNeg) ((σ 102 (701 + x1).toNatClampNeg) + (x2 - x2 / q3 * q3)) ((σ 102 (721 + x1).toNatClampNeg) + (x2 / q3))).bind fun q10 => some q10))))))))
set_option maxHeartbeats 4000000 in
set_option maxRecDepth 100000 in
theorem w_X11_cellOf_0 (X : Cx g RX11 cX11_cellOf 4 (some .int) p s m args meth c) (x1 : Int32) (x2 : Int32) (σ : St) {w : Int32} (KR : ∀ (H : Heap) (locs : List Loc) (ls : Array Slot) (pc : Nat), Wd g s σ H locs → decode cX11_cellOf pc = .ok (.ireturn, 1) → W p l e (rmm 1 22) s m args below meth c H locs 0 0 Q (F0 m pc ls [.int (w)])) {H : Heap} {locs : List Loc} {ls : Array Slot} (Y : Wd g s σ H locs) (hl : lv_has ls 4 [(0, .ref (g.2.2 (101))), (1, .int (x1)), (2, .int (x2))]) (h : f_X11_cellOf_0 x1 x2 σ = some w) : W p l e (rmm 1 22) s m args below meth c H locs 0 0 Q (F0 m 0 ls []) := by
  unfold f_X11_cellOf_0 at h
  refine lv_aload_n X.1 X.2.1 (dk T_X11_cellOf 0 rfl) rfl (lv_at hl 0 rfl) ?_
  refine lv_aload_n X.1 X.2.1 (dk T_X11_cellOf 1 rfl) rfl (lv_at hl 0 rfl) ?_
  refine gg X Y fl_X11_7 rfl rfl (dk T_X11_cellOf 2 rfl) ?_
  refine lv_sipush (v := 661) X.1 X.2.1 (dk T_X11_cellOf 3 rfl) sp_661 ?_
  refine lv_iload_n X.1 X.2.1 (dk T_X11_cellOf 4 rfl) rfl (lv_at hl 1 rfl) ?_
  refine lv_iadd X.1 X.2.1 (dk T_X11_cellOf 5 rfl) ?_
  obtain ⟨g1, h⟩ := gd h
  refine gil X Y rfl (inp g1) (dk T_X11_cellOf 6 rfl) ?_
  refine lv_aload_n X.1 X.2.1 (dk T_X11_cellOf 7 rfl) rfl (lv_at hl 0 rfl) ?_
  refine gg X Y fl_X11_7 rfl rfl (dk T_X11_cellOf 8 rfl) ?_
  refine lv_sipush (v := 741) X.1 X.2.1 (dk T_X11_cellOf 9 rfl) sp_741 ?_
  refine lv_iload_n X.1 X.2.1 (dk T_X11_cellOf 10 rfl) rfl (lv_at hl 1 rfl) ?_
  refine lv_iadd X.1 X.2.1 (dk T_X11_cellOf 11 rfl) ?_
  obtain ⟨g2, h⟩ := gd h
  refine gil X Y rfl (inp g2) (dk T_X11_cellOf 12 rfl) ?_
  obtain ⟨q3, hq3, h⟩ := bs h
  refine gvI (rest := []) X Y (c_X11_turnedColumns (σ 102 (661 + x1).toNatClampNeg) (σ 102 (741 + x1).toNatClampNeg) σ hq3) cb_X11_126 rfl hl.1 rfl rfl (Nat.le_of_ble_eq_true rfl) ⟨Nat.le_of_ble_eq_true rfl, Nat.le_of_ble_eq_true rfl⟩ (dk T_X11_cellOf 13 rfl) (fun H locs Y => ?_)
  refine lv_istore_n (lv' := [(3, .int (q3)), (0, .ref (g.2.2 (101))), (1, .int (x1)), (2, .int (x2))]) X.1 X.2.1 (dk T_X11_cellOf 14 rfl) rfl hl (Nat.le_of_ble_eq_true rfl) rfl (fun ls hl => ?_)
  refine lv_aload_n X.1 X.2.1 (dk T_X11_cellOf 15 rfl) rfl (lv_at hl 1 rfl) ?_
  refine gg X Y fl_X11_7 rfl rfl (dk T_X11_cellOf 16 rfl) ?_
  refine lv_iconst (v := 3) X.1 X.2.1 (dk T_X11_cellOf 17 rfl) ic_3 ?_
  refine lv_aload_n X.1 X.2.1 (dk T_X11_cellOf 18 rfl) rfl (lv_at hl 1 rfl) ?_
  refine gg X Y fl_X11_7 rfl rfl (dk T_X11_cellOf 19 rfl) ?_
  refine lv_sipush (v := 681) X.1 X.2.1 (dk T_X11_cellOf 20 rfl) sp_681 ?_
  refine lv_iload_n X.1 X.2.1 (dk T_X11_cellOf 21 rfl) rfl (lv_at hl 2 rfl) ?_
  refine lv_iadd X.1 X.2.1 (dk T_X11_cellOf 22 rfl) ?_
  obtain ⟨g4, h⟩ := gd h
  refine gil X Y rfl (inp g4) (dk T_X11_cellOf 23 rfl) ?_
  refine lv_iadd X.1 X.2.1 (dk T_X11_cellOf 24 rfl) ?_
  obtain ⟨g5, h⟩ := gd h
  refine gil X Y rfl (inp g5) (dk T_X11_cellOf 25 rfl) ?_
  refine lv_aload_n X.1 X.2.1 (dk T_X11_cellOf 26 rfl) rfl (lv_at hl 1 rfl) ?_
  refine gg X Y fl_X11_7 rfl rfl (dk T_X11_cellOf 27 rfl) ?_
  refine lv_sipush (v := 701) X.1 X.2.1 (dk T_X11_cellOf 28 rfl) sp_701 ?_
  refine lv_iload_n X.1 X.2.1 (dk T_X11_cellOf 29 rfl) rfl (lv_at hl 2 rfl) ?_
  refine lv_iadd X.1 X.2.1 (dk T_X11_cellOf 30 rfl) ?_
  obtain ⟨g6, h⟩ := gd h
  refine gil X Y rfl (inp g6) (dk T_X11_cellOf 31 rfl) ?_
  refine lv_iload_n X.1 X.2.1 (dk T_X11_cellOf 32 rfl) rfl (lv_at hl 3 rfl) ?_
  refine lv_iload_n X.1 X.2.1 (dk T_X11_cellOf 33 rfl) rfl (lv_at hl 0 rfl) ?_
  obtain ⟨g7, h⟩ := gd h
  refine lv_irem X.1 X.2.1 (dk T_X11_cellOf 34 rfl) (nzp g7) ?_
  refine lv_iadd X.1 X.2.1 (dk T_X11_cellOf 35 rfl) ?_
  refine lv_aload_n X.1 X.2.1 (dk T_X11_cellOf 36 rfl) rfl (lv_at hl 1 rfl) ?_
  refine gg X Y fl_X11_7 rfl rfl (dk T_X11_cellOf 37 rfl) ?_
  refine lv_sipush (v := 721) X.1 X.2.1 (dk T_X11_cellOf 38 rfl) sp_721 ?_
  refine lv_iload_n X.1 X.2.1 (dk T_X11_cellOf 39 rfl) rfl (lv_at hl 2 rfl) ?_
  refine lv_iadd X.1 X.2.1 (dk T_X11_cellOf 40 rfl) ?_
  obtain ⟨g8, h⟩ := gd h
  refine gil X Y rfl (inp g8) (dk T_X11_cellOf 41 rfl) ?_
  refine lv_iload_n X.1 X.2.1 (dk T_X11_cellOf 42 rfl) rfl (lv_at hl 3 rfl) ?_
  refine lv_iload_n X.1 X.2.1 (dk T_X11_cellOf 43 rfl) rfl (lv_at hl 0 rfl) ?_
  obtain ⟨g9, h⟩ := gd h
  refine lv_idiv X.1 X.2.1 (dk T_X11_cellOf 44 rfl) (nzp g9) ?_
  refine lv_iadd X.1 X.2.1 (dk T_X11_cellOf 45 rfl) ?_
  obtain ⟨q10, hq10, h⟩ := bs h
  refine gsI (rest := []) X Y (c_X11_at (σ 102 (3 + (σ 102 (681 + x1).toNatClampNeg)).toNatClampNeg) ((σ 102 (701 + x1).toNatClampNeg) + (x2 - x2 / q3 * q3)) ((σ 102 (721 + x1).toNatClampNeg) + (x2 / q3)) σ hq10) cb_X11_102 hl.1 rfl rfl (Nat.le_of_ble_eq_true rfl) ⟨Nat.le_of_ble_eq_true rfl, Nat.le_of_ble_eq_true rfl⟩ (dk T_X11_cellOf 46 rfl) (fun H locs Y => ?_)
  obtain rfl := Option.some.inj h
  exact KR _ _ _ _ Y (dk T_X11_cellOf 47 rfl)
def f_X11_cellOf (x1 : Int32) (x2 : Int32) (σ : St) : Option (Int32) := f_X11_cellOf_0 x1 x2 σ
set_option maxHeartbeats 4000000 in
set_option maxRecDepth 100000 in
theorem c_X11_cellOf {l : Launch} {g : Geo} (x1 : Int32) (x2 : Int32) (σ : St) {w : Int32} (h : f_X11_cellOf x1 x2 σ = some w) : CtI l yX11_cellOf cX11_cellOf 4 (some .int) (rmm 1 22) g [.ref (g.2.2 (101)), .int (x1), .int (x2)] σ w σ := enI .int (by decide) rfl rfl (Nat.le_of_ble_eq_true rfl) (fun p e s m args below meth c Q X Y ls hl KR => w_X11_cellOf_0 X x1 x2 σ KR Y hl h)
def I_X11_looks : List (Nat × Instr × Nat) := [(0, .iconst 0, 1), (1, .istore_n 2, 1), (2, .iload_n 2, 1), (3, .bipush 100, 2), (5, .if_icmp .ge 16, 3), (8, .aload_n 0, 1), (9, .getfield 37, 3), (12, .iload_n 2, 1), (13, .iconst (-1), 1), (14, .iastore, 1), (15, .iinc 2 1, 3), (18, .goto (-16), 3), (21, .iconst 0, 1), (22, .istore_n 2, 1), (23, .iload_n 2, 1), (24, .aload_n 0, 1), (25, .getfield 7, 3), (28, .iconst 2, 1), (29, .iaload, 1), (30, .if_icmp .ge 90, 3), (33, .aload_n 0, 1), (34, .getfield 7, 3), (37, .sipush 681, 3), (40, .iload_n 2, 1), (41, .iadd, 1), (42, .iaload, 1), (43, .iload_n 1, 1), (44, .if_icmp .ne 30, 3), (47, .aload_n 0, 1), (48, .aload_n 0, 1), (49, .getfield 7, 3), (52, .sipush 661, 3), (55, .iload_n 2, 1), (56, .iadd, 1), (57, .iaload, 1), (58, .aload_n 0, 1), (59, .getfield 7, 3), (62, .sipush 741, 3), (65, .iload_n 2, 1), (66, .iadd, 1), (67, .iaload, 1), (68, .invokevirtual 136, 3), (71, .goto 4, 3), (74, .iconst 0, 1), (75, .istore_n 3, 1), (76, .iconst 0, 1), (77, .istore 4, 2), (79, .iload 4, 2), (81, .bipush 16, 2), (83, .if_icmp .ge 31, 3), (86, .iload_n 3, 1), (87, .iload 4, 2), (89, .invokestatic 105, 3), (92, .ifCond .eq 16, 3), (95, .aload_n 0, 1), (96, .getfield 37, 3), (99, .aload_n 0, 1), (100, .iload_n 2, 1), (101, .iload 4, 2), (103, .invokevirtual 139, 3), (106, .iload_n 2, 1), (107, .iastore, 1), (108, .iinc 4 1, 3), (111, .goto (-32), 3), (114, .iinc 2 1, 3), (117, .goto (-94), 3), (120, .return_, 1)]
set_option maxRecDepth 100000 in
theorem T_X11_looks : ∀ q ∈ I_X11_looks, decode cX11_looks q.1 = .ok (q.2.1, q.2.2) := by decide +kernel
def f_X11_looks_l2 (x1 : Int32) (z : Int32 × St) : Option ((Int32 × St) ⊕ (St)) :=
  if 100 ≤ z.1 then some (.inr z.2) else chk (inb z.1 100) (some (.inl (z.1 + 1, up z.2 111 z.1.toNatClampNeg (-1))))
set_option maxHeartbeats 4000000 in
set_option maxRecDepth 100000 in
theorem w_X11_looks_l2 (X : Cx g RX11 cX11_looks 5 none p s m args meth c) (x1 : Int32) (σ : St) {r : St} (KX0 : ∀ (v : St), r = v → ∀ (H : Heap) (locs : List Loc) (ls : Array Slot), Wd g s v H locs → lv_has ls 5 [(0, .ref (g.2.2 (101))), (1, .int (x1))] → W p l e (rmm 3 71) s m args below meth c H locs 0 0 Q (F0 m 21 ls [])) : ∀ (n : Nat) (z : Int32 × St) {H : Heap} {locs : List Loc} {ls : Array Slot}, Wd g s z.2 H locs → lv_has ls 5 [(0, .ref (g.2.2 (101))), (1, .int (x1)), (2, .int (z.1))] → lp (f_X11_looks_l2 x1) n z = some r → W p l e (rmm 3 71) s m args below meth c H locs 0 0 Q (F0 m 2 ls []) := by
  intro n
  induction n with
  | zero => intro z H locs ls Y hl h; cases h
  | succ n ih =>
    intro z H locs ls Y hl h
    obtain ⟨w, h, hw⟩ := lps h
    have KB : ∀ (v0_ : Int32) (v1_ : St), w = .inl (v0_, v1_) → ∀ (H : Heap) (locs : List Loc) (ls : Array Slot), Wd g s v1_ H locs → lv_has ls 5 [(0, .ref (g.2.2 (101))), (1, .int (x1)), (2, .int (v0_))] → W p l e (rmm 3 71) s m args below meth c H locs 0 0 Q (F0 m 2 ls []) := fun v0_ v1_ e H locs ls Y hl => ih (v0_, v1_) Y hl (lpl hw e)
    have KX0 := fun (v : St) (e : w = .inr v) => KX0 v (lpr hw e)
    unfold f_X11_looks_l2 at h
    refine lv_iload_n X.1 X.2.1 (dk T_X11_looks 2 rfl) rfl (lv_at hl 2 rfl) ?_
    refine lv_bipush (v := 100) X.1 X.2.1 (dk T_X11_looks 3 rfl) bp_100 ?_
    refine lv_icmp_ge (tgt := 21) X.1 X.2.1 (dk T_X11_looks 4 rfl) rfl (fun c1 => ?_) (fun c1 => ?_)
    · replace h := ipos c1 h
      exact KX0 z.2 (Option.some.inj h).symm _ _ _ Y (lv_sub hl [0, 1] rfl)
    · replace h := ineg c1 h
      refine lv_aload_n X.1 X.2.1 (dk T_X11_looks 5 rfl) rfl (lv_at hl 0 rfl) ?_
      refine gg X Y fl_X11_37 rfl rfl (dk T_X11_looks 6 rfl) ?_
      refine lv_iload_n X.1 X.2.1 (dk T_X11_looks 7 rfl) rfl (lv_at hl 2 rfl) ?_
      refine lv_iconst (v := (-1)) X.1 X.2.1 (dk T_X11_looks 8 rfl) ic_m1 ?_
      obtain ⟨g2, h⟩ := gd h
      refine gis X Y rfl (inp g2) (dk T_X11_looks 9 rfl) (fun H locs Y => ?_)
      refine lv_iinc (v := z.1 + 1) (lv' := [(2, .int (z.1 + 1)), (0, .ref (g.2.2 (101))), (1, .int (x1))]) X.1 X.2.1 (dk T_X11_looks 10 rfl) hl (k := 2) rfl (icx ic_1) (Nat.le_of_ble_eq_true rfl) rfl (fun ls hl => ?_)
      refine lv_goto (tgt := 2) X.1 X.2.1 (dk T_X11_looks 11 rfl) rfl ?_
      exact KB (z.1 + 1) (up z.2 111 z.1.toNatClampNeg (-1)) (Option.some.inj h).symm _ _ _ Y (lv_sub hl [1, 2, 0] rfl)
def f_X11_looks_j108 (x1 : Int32) (x2 : Int32) (x3 : Int32) (x4 : Int32) (σ : St) : Option ((Int32 × St) ⊕ (St)) :=
  some (.inl (x4 + 1, σ))
set_option maxHeartbeats 4000000 in
set_option maxRecDepth 100000 in
theorem w_X11_looks_j108 (X : Cx g RX11 cX11_looks 5 none p s m args meth c) (x1 : Int32) (x2 : Int32) (x3 : Int32) (x4 : Int32) (σ : St) {w : (Int32 × St) ⊕ (St)} (KB : ∀ (v0_ : Int32) (v1_ : St), w = .inl (v0_, v1_) → ∀ (H : Heap) (locs : List Loc) (ls : Array Slot), Wd g s v1_ H locs → lv_has ls 5 [(0, .ref (g.2.2 (101))), (1, .int (x1)), (2, .int (x2)), (3, .int (x3)), (4, .int (v0_))] → W p l e (rmm 3 71) s m args below meth c H locs 0 0 Q (F0 m 79 ls [])) (KX0 : ∀ (v : St), w = .inr v → ∀ (H : Heap) (locs : List Loc) (ls : Array Slot), Wd g s v H locs → lv_has ls 5 [(0, .ref (g.2.2 (101))), (1, .int (x1)), (2, .int (x2))] → W p l e (rmm 3 71) s m args below meth c H locs 0 0 Q (F0 m 114 ls [])) {H : Heap} {locs : List Loc} {ls : Array Slot} (Y : Wd g s σ H locs) (hl : lv_has ls 5 [(0, .ref (g.2.2 (101))), (1, .int (x1)), (2, .int (x2)), (3, .int (x3)), (4, .int (x4))]) (h : f_X11_looks_j108 x1 x2 x3 x4 σ = some w) : W p l e (rmm 3 71) s m args below meth c H locs 0 0 Q (F0 m 108 ls []) := by
  unfold f_X11_looks_j108 at h
  refine lv_iinc (v := x4 + 1) (lv' := [(4, .int (x4 + 1)), (0, .ref (g.2.2 (101))), (1, .int (x1)), (2, .int (x2)), (3, .int (x3))]) X.1 X.2.1 (dk T_X11_looks 62 rfl) hl (k := 4) rfl (icx ic_1) (Nat.le_of_ble_eq_true rfl) rfl (fun ls hl => ?_)
  refine lv_goto (tgt := 79) X.1 X.2.1 (dk T_X11_looks 63 rfl) rfl ?_
  exact KB (x4 + 1) σ (Option.some.inj h).symm _ _ _ Y (lv_sub hl [1, 2, 3, 4, 0] rfl)
def f_X11_looks_l79 (x1 : Int32) (x2 : Int32) (x3 : Int32) (z : Int32 × St) : Option ((Int32 × St) ⊕ (St)) :=
  if 16 ≤ z.1 then some (.inr z.2) else (f_X11_has x3 z.1).bind fun q9 => if q9 = 0 then f_X11_looks_j108 x1 x2 x3 z.1 z.2 else (f_X11_cellOf x2 z.1 z.2).bind fun q11 => chk (inb q11 100) (f_X11_looks_j108 x1 x2 x3 z.1 (up z.2 111 q11.toNatClampNeg x2))
set_option maxHeartbeats 4000000 in
set_option maxRecDepth 100000 in
theorem w_X11_looks_l79 (X : Cx g RX11 cX11_looks 5 none p s m args meth c) (x1 : Int32) (x2 : Int32) (x3 : Int32) (σ : St) {r : St} (KX0 : ∀ (v : St), r = v → ∀ (H : Heap) (locs : List Loc) (ls : Array Slot), Wd g s v H locs → lv_has ls 5 [(0, .ref (g.2.2 (101))), (1, .int (x1)), (2, .int (x2))] → W p l e (rmm 3 71) s m args below meth c H locs 0 0 Q (F0 m 114 ls [])) : ∀ (n : Nat) (z : Int32 × St) {H : Heap} {locs : List Loc} {ls : Array Slot}, Wd g s z.2 H locs → lv_has ls 5 [(0, .ref (g.2.2 (101))), (1, .int (x1)), (2, .int (x2)), (3, .int (x3)), (4, .int (z.1))] → lp (f_X11_looks_l79 x1 x2 x3) n z = some r → W p l e (rmm 3 71) s m args below meth c H locs 0 0 Q (F0 m 79 ls []) := by
  intro n
  induction n with
  | zero => intro z H locs ls Y hl h; cases h
  | succ n ih =>
    intro z H locs ls Y hl h
    obtain ⟨w, h, hw⟩ := lps h
    have KB : ∀ (v0_ : Int32) (v1_ : St), w = .inl (v0_, v1_) → ∀ (H : Heap) (locs : List Loc) (ls : Array Slot), Wd g s v1_ H locs → lv_has ls 5 [(0, .ref (g.2.2 (101))), (1, .int (x1)), (2, .int (x2)), (3, .int (x3)), (4, .int (v0_))] → W p l e (rmm 3 71) s m args below meth c H locs 0 0 Q (F0 m 79 ls []) := fun v0_ v1_ e H locs ls Y hl => ih (v0_, v1_) Y hl (lpl hw e)
    have KX0 := fun (v : St) (e : w = .inr v) => KX0 v (lpr hw e)
    unfold f_X11_looks_l79 at h
    refine lv_iload X.1 X.2.1 (dk T_X11_looks 47 rfl) (lv_at hl 4 rfl) ?_
    refine lv_bipush (v := 16) X.1 X.2.1 (dk T_X11_looks 48 rfl) bp_16 ?_
    refine lv_icmp_ge (tgt := 114) X.1 X.2.1 (dk T_X11_looks 49 rfl) rfl (fun c8 => ?_) (fun c8 => ?_)
    · replace h := ipos c8 h
      exact KX0 z.2 (Option.some.inj h).symm _ _ _ Y (lv_sub hl [0, 1, 2] rfl)
    · replace h := ineg c8 h
      refine lv_iload_n X.1 X.2.1 (dk T_X11_looks 50 rfl) rfl (lv_at hl 3 rfl) ?_
      refine lv_iload X.1 X.2.1 (dk T_X11_looks 51 rfl) (lv_at hl 4 rfl) ?_
      obtain ⟨q9, hq9, h⟩ := bs h
      refine gsI (rest := []) X Y (c_X11_has x3 z.1 z.2 hq9) cb_X11_105 hl.1 rfl rfl (Nat.le_of_ble_eq_true rfl) ⟨Nat.le_of_ble_eq_true rfl, Nat.le_of_ble_eq_true rfl⟩ (dk T_X11_looks 52 rfl) (fun H locs Y => ?_)
      refine lv_if_eq (tgt := 108) X.1 X.2.1 (dk T_X11_looks 53 rfl) rfl (fun c10 => ?_) (fun c10 => ?_)
      · replace h := ipos c10 h
        exact w_X11_looks_j108 X x1 x2 x3 z.1 z.2 KB KX0 Y (lv_sub hl [0, 1, 2, 3, 4] rfl) h
      · replace h := ineg c10 h
        refine lv_aload_n X.1 X.2.1 (dk T_X11_looks 54 rfl) rfl (lv_at hl 0 rfl) ?_
        refine gg X Y fl_X11_37 rfl rfl (dk T_X11_looks 55 rfl) ?_
        refine lv_aload_n X.1 X.2.1 (dk T_X11_looks 56 rfl) rfl (lv_at hl 0 rfl) ?_
        refine lv_iload_n X.1 X.2.1 (dk T_X11_looks 57 rfl) rfl (lv_at hl 2 rfl) ?_
        refine lv_iload X.1 X.2.1 (dk T_X11_looks 58 rfl) (lv_at hl 4 rfl) ?_
        obtain ⟨q11, hq11, h⟩ := bs h
        refine gvI (rest := [.ref (g.2.2 (111))]) X Y (c_X11_cellOf x2 z.1 z.2 hq11) cb_X11_139 rfl hl.1 rfl rfl (Nat.le_of_ble_eq_true rfl) ⟨Nat.le_of_ble_eq_true rfl, Nat.le_of_ble_eq_true rfl⟩ (dk T_X11_looks 59 rfl) (fun H locs Y => ?_)
        refine lv_iload_n X.1 X.2.1 (dk T_X11_looks 60 rfl) rfl (lv_at hl 2 rfl) ?_
        obtain ⟨g12, h⟩ := gd h
        refine gis X Y rfl (inp g12) (dk T_X11_looks 61 rfl) (fun H locs Y => ?_)
        exact w_X11_looks_j108 X x1 x2 x3 z.1 (up z.2 111 q11.toNatClampNeg x2) KB KX0 Y (lv_sub hl [0, 1, 2, 3, 4] rfl) h
def f_X11_looks_j75 (x1 : Int32) (x2 : Int32) (s0 : Int32) (σ : St) : Option ((Int32 × St) ⊕ (St)) :=
  (lp (f_X11_looks_l79 x1 x2 s0) FU (0, σ)).bind fun q13 => some (.inl (x2 + 1, q13))
set_option maxHeartbeats 4000000 in
set_option maxRecDepth 100000 in
theorem w_X11_looks_j75 (X : Cx g RX11 cX11_looks 5 none p s m args meth c) (x1 : Int32) (x2 : Int32) (s0 : Int32) (σ : St) {w : (Int32 × St) ⊕ (St)} (KB : ∀ (v0_ : Int32) (v1_ : St), w = .inl (v0_, v1_) → ∀ (H : Heap) (locs : List Loc) (ls : Array Slot), Wd g s v1_ H locs → lv_has ls 5 [(0, .ref (g.2.2 (101))), (1, .int (x1)), (2, .int (v0_))] → W p l e (rmm 3 71) s m args below meth c H locs 0 0 Q (F0 m 23 ls [])) (KX0 : ∀ (v : St), w = .inr v → ∀ (H : Heap) (locs : List Loc) (ls : Array Slot), Wd g s v H locs → lv_has ls 5 [] → W p l e (rmm 3 71) s m args below meth c H locs 0 0 Q (F0 m 120 ls [])) {H : Heap} {locs : List Loc} {ls : Array Slot} (Y : Wd g s σ H locs) (hl : lv_has ls 5 [(0, .ref (g.2.2 (101))), (1, .int (x1)), (2, .int (x2))]) (h : f_X11_looks_j75 x1 x2 s0 σ = some w) : W p l e (rmm 3 71) s m args below meth c H locs 0 0 Q (F0 m 75 ls [.int (s0)]) := by
  unfold f_X11_looks_j75 at h
  refine lv_istore_n (lv' := [(3, .int (s0)), (0, .ref (g.2.2 (101))), (1, .int (x1)), (2, .int (x2))]) X.1 X.2.1 (dk T_X11_looks 44 rfl) rfl hl (Nat.le_of_ble_eq_true rfl) rfl (fun ls hl => ?_)
  refine lv_iconst (v := 0) X.1 X.2.1 (dk T_X11_looks 45 rfl) ic_0 ?_
  refine lv_istore (lv' := [(4, .int (0)), (3, .int (s0)), (0, .ref (g.2.2 (101))), (1, .int (x1)), (2, .int (x2))]) X.1 X.2.1 (dk T_X11_looks 46 rfl) hl (Nat.le_of_ble_eq_true rfl) rfl (fun ls hl => ?_)
  obtain ⟨q13, hq13, h⟩ := bs h
  refine w_X11_looks_l79 X x1 x2 s0 σ (fun v e H locs ls Y hl => ?_) FU (0, σ) Y (lv_sub hl [2, 3, 4, 1, 0] rfl) hq13
  · obtain rfl := e
    refine lv_iinc (v := x2 + 1) (lv' := [(2, .int (x2 + 1)), (0, .ref (g.2.2 (101))), (1, .int (x1))]) X.1 X.2.1 (dk T_X11_looks 64 rfl) hl (k := 2) rfl (icx ic_1) (Nat.le_of_ble_eq_true rfl) rfl (fun ls hl => ?_)
    refine lv_goto (tgt := 23) X.1 X.2.1 (dk T_X11_looks 65 rfl) rfl ?_
    exact KB (x2 + 1) q13 (Option.some.inj h).symm _ _ _ Y (lv_sub hl [1, 2, 0] rfl)
def f_X11_looks_l23 (x1 : Int32) (z : Int32 × St) : Option ((Int32 × St) ⊕ (St)) :=
  chk (inb 2 761) (if (z.2 102 (2 : Int32).toNatClampNeg) ≤ z.1 then some (.inr z.2) else chk (inb (681 + z.1) 761) (if (z.2 102 (681 + z.1).toNatClampNeg) = x1 then chk (inb (661 + z.1) 761) (chk (inb (741 + z.1) 761) ((f_X11_turnedSet (z.2 102 (661 + z.1).toNatClampNeg) (z.2 102 (741 + z.1).toNatClampNeg) z.2).bind fun q16 => f_X11_looks_j75 x1 z.1 q16 z.2)) else f_X11_looks_j75 x1 z.1 0 z.2))
set_option maxHeartbeats 4000000 in
set_option maxRecDepth 100000 in
theorem w_X11_looks_l23 (X : Cx g RX11 cX11_looks 5 none p s m args meth c) (x1 : Int32) (σ : St) {r : St} (KX0 : ∀ (v : St), r = v → ∀ (H : Heap) (locs : List Loc) (ls : Array Slot), Wd g s v H locs → lv_has ls 5 [] → W p l e (rmm 3 71) s m args below meth c H locs 0 0 Q (F0 m 120 ls [])) : ∀ (n : Nat) (z : Int32 × St) {H : Heap} {locs : List Loc} {ls : Array Slot}, Wd g s z.2 H locs → lv_has ls 5 [(0, .ref (g.2.2 (101))), (1, .int (x1)), (2, .int (z.1))] → lp (f_X11_looks_l23 x1) n z = some r → W p l e (rmm 3 71) s m args below meth c H locs 0 0 Q (F0 m 23 ls []) := by
  intro n
  induction n with
  | zero => intro z H locs ls Y hl h; cases h
  | succ n ih =>
    intro z H locs ls Y hl h
    obtain ⟨w, h, hw⟩ := lps h
    have KB : ∀ (v0_ : Int32) (v1_ : St), w = .inl (v0_, v1_) → ∀ (H : Heap) (locs : List Loc) (ls : Array Slot), Wd g s v1_ H locs → lv_has ls 5 [(0, .ref (g.2.2 (101))), (1, .int (x1)), (2, .int (v0_))] → W p l e (rmm 3 71) s m args below meth c H locs 0 0 Q (F0 m 23 ls []) := fun v0_ v1_ e H locs ls Y hl => ih (v0_, v1_) Y hl (lpl hw e)
    have KX0 := fun (v : St) (e : w = .inr v) => KX0 v (lpr hw e)
    unfold f_X11_looks_l23 at h
    refine lv_iload_n X.1 X.2.1 (dk T_X11_looks 14 rfl) rfl (lv_at hl 2 rfl) ?_
    refine lv_aload_n X.1 X.2.1 (dk T_X11_looks 15 rfl) rfl (lv_at hl 0 rfl) ?_
    refine gg X Y fl_X11_7 rfl rfl (dk T_X11_looks 16 rfl) ?_
    refine lv_iconst (v := 2) X.1 X.2.1 (dk T_X11_looks 17 rfl) ic_2 ?_
    obtain ⟨g4, h⟩ := gd h
    refine gil X Y rfl (inp g4) (dk T_X11_looks 18 rfl) ?_
    refine lv_icmp_ge (tgt := 120) X.1 X.2.1 (dk T_X11_looks 19 rfl) rfl (fun c5 => ?_) (fun c5 => ?_)
    · replace h := ipos c5 h
      exact KX0 z.2 (Option.some.inj h).symm _ _ _ Y (lv_sub hl [] rfl)
    · replace h := ineg c5 h
      refine lv_aload_n X.1 X.2.1 (dk T_X11_looks 20 rfl) rfl (lv_at hl 0 rfl) ?_
      refine gg X Y fl_X11_7 rfl rfl (dk T_X11_looks 21 rfl) ?_
      refine lv_sipush (v := 681) X.1 X.2.1 (dk T_X11_looks 22 rfl) sp_681 ?_
      refine lv_iload_n X.1 X.2.1 (dk T_X11_looks 23 rfl) rfl (lv_at hl 2 rfl) ?_
      refine lv_iadd X.1 X.2.1 (dk T_X11_looks 24 rfl) ?_
      obtain ⟨g6, h⟩ := gd h
      refine gil X Y rfl (inp g6) (dk T_X11_looks 25 rfl) ?_
      refine lv_iload_n X.1 X.2.1 (dk T_X11_looks 26 rfl) rfl (lv_at hl 1 rfl) ?_
      refine lv_icmp_ne (tgt := 74) X.1 X.2.1 (dk T_X11_looks 27 rfl) rfl (fun c7 => ?_) (fun c7 => ?_)
      · replace h := ineg c7 h
        refine lv_iconst (v := 0) X.1 X.2.1 (dk T_X11_looks 43 rfl) ic_0 ?_
        exact w_X11_looks_j75 X x1 z.1 0 z.2 KB KX0 Y (lv_sub hl [0, 1, 2] rfl) h
      · replace h := ipos c7 h
        refine lv_aload_n X.1 X.2.1 (dk T_X11_looks 28 rfl) rfl (lv_at hl 0 rfl) ?_
        refine lv_aload_n X.1 X.2.1 (dk T_X11_looks 29 rfl) rfl (lv_at hl 0 rfl) ?_
        refine gg X Y fl_X11_7 rfl rfl (dk T_X11_looks 30 rfl) ?_
        refine lv_sipush (v := 661) X.1 X.2.1 (dk T_X11_looks 31 rfl) sp_661 ?_
        refine lv_iload_n X.1 X.2.1 (dk T_X11_looks 32 rfl) rfl (lv_at hl 2 rfl) ?_
        refine lv_iadd X.1 X.2.1 (dk T_X11_looks 33 rfl) ?_
        obtain ⟨g14, h⟩ := gd h
        refine gil X Y rfl (inp g14) (dk T_X11_looks 34 rfl) ?_
        refine lv_aload_n X.1 X.2.1 (dk T_X11_looks 35 rfl) rfl (lv_at hl 0 rfl) ?_
        refine gg X Y fl_X11_7 rfl rfl (dk T_X11_looks 36 rfl) ?_
        refine lv_sipush (v := 741) X.1 X.2.1 (dk T_X11_looks 37 rfl) sp_741 ?_
        refine lv_iload_n X.1 X.2.1 (dk T_X11_looks 38 rfl) rfl (lv_at hl 2 rfl) ?_
        refine lv_iadd X.1 X.2.1 (dk T_X11_looks 39 rfl) ?_
        obtain ⟨g15, h⟩ := gd h
        refine gil X Y rfl (inp g15) (dk T_X11_looks 40 rfl) ?_
        obtain ⟨q16, hq16, h⟩ := bs h
        refine gvI (rest := []) X Y (c_X11_turnedSet (z.2 102 (661 + z.1).toNatClampNeg) (z.2 102 (741 + z.1).toNatClampNeg) z.2 hq16) cb_X11_136 rfl hl.1 rfl rfl (Nat.le_of_ble_eq_true rfl) ⟨Nat.le_of_ble_eq_true rfl, Nat.le_of_ble_eq_true rfl⟩ (dk T_X11_looks 41 rfl) (fun H locs Y => ?_)
        refine lv_goto (tgt := 75) X.1 X.2.1 (dk T_X11_looks 42 rfl) rfl ?_
        exact w_X11_looks_j75 X x1 z.1 q16 z.2 KB KX0 Y (lv_sub hl [0, 1, 2] rfl) h
def f_X11_looks_0 (x1 : Int32) (σ : St) : Option (St) :=
  (lp (f_X11_looks_l2 x1) FU (0, σ)).bind fun q3 => (lp (f_X11_looks_l23 x1) FU (0, q3)).bind fun q17 => some q17
set_option maxHeartbeats 4000000 in
set_option maxRecDepth 100000 in
theorem w_X11_looks_0 (X : Cx g RX11 cX11_looks 5 none p s m args meth c) (x1 : Int32) (σ : St) {w : St} (KR : ∀ (H : Heap) (locs : List Loc) (ls : Array Slot) (pc : Nat), Wd g s w H locs → decode cX11_looks pc = .ok (.return_, 1) → W p l e (rmm 3 71) s m args below meth c H locs 0 0 Q (F0 m pc ls [])) {H : Heap} {locs : List Loc} {ls : Array Slot} (Y : Wd g s σ H locs) (hl : lv_has ls 5 [(0, .ref (g.2.2 (101))), (1, .int (x1))]) (h : f_X11_looks_0 x1 σ = some w) : W p l e (rmm 3 71) s m args below meth c H locs 0 0 Q (F0 m 0 ls []) := by
  unfold f_X11_looks_0 at h
  refine lv_iconst (v := 0) X.1 X.2.1 (dk T_X11_looks 0 rfl) ic_0 ?_
  refine lv_istore_n (lv' := [(2, .int (0)), (0, .ref (g.2.2 (101))), (1, .int (x1))]) X.1 X.2.1 (dk T_X11_looks 1 rfl) rfl hl (Nat.le_of_ble_eq_true rfl) rfl (fun ls hl => ?_)
  obtain ⟨q3, hq3, h⟩ := bs h
  refine w_X11_looks_l2 X x1 σ (fun v e H locs ls Y hl => ?_) FU (0, σ) Y (lv_sub hl [1, 2, 0] rfl) hq3
  · obtain rfl := e
    refine lv_iconst (v := 0) X.1 X.2.1 (dk T_X11_looks 12 rfl) ic_0 ?_
    refine lv_istore_n (lv' := [(2, .int (0)), (0, .ref (g.2.2 (101))), (1, .int (x1))]) X.1 X.2.1 (dk T_X11_looks 13 rfl) rfl hl (Nat.le_of_ble_eq_true rfl) rfl (fun ls hl => ?_)
    obtain ⟨q17, hq17, h⟩ := bs h
    refine w_X11_looks_l23 X x1 σ (fun v e H locs ls Y hl => ?_) FU (0, q3) Y (lv_sub hl [1, 2, 0] rfl) hq17
    · obtain rfl := e
      obtain rfl := Option.some.inj h
      exact KR _ _ _ _ Y (dk T_X11_looks 66 rfl)
def f_X11_looks (x1 : Int32) (σ : St) : Option (St) := f_X11_looks_0 x1 σ
set_option maxHeartbeats 4000000 in
set_option maxRecDepth 100000 in
theorem c_X11_looks {l : Launch} {g : Geo} (x1 : Int32) (σ : St) {w : St} (h : f_X11_looks x1 σ = some w) : CtV l yX11_looks cX11_looks 5 none (rmm 3 71) g [.ref (g.2.2 (101)), .int (x1)] σ w := enV (by decide) rfl (Nat.le_of_ble_eq_true rfl) (fun p e s m args below meth c Q X Y ls hl KR => w_X11_looks_0 X x1 σ KR Y hl h)
end
