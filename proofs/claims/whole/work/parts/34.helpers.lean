theorem cb_L_7 : CBV RL 7 yX10_addSheet cX10_addSheet 4 (some .int) 3 11 := ⟨⟨mw 5 6 rfl rfl, mw 0 2 rfl rfl, mw 5 9 rfl rfl, by decide, by decide, by decide +kernel⟩, mw 5 7 rfl rfl, mw 5 8 rfl rfl, TX10, 12, tyX10, cl_X10⟩
theorem cb_L_17 : CBV RL 17 yX10_addShape cX10_addShape 6 (some .int) 5 11 := ⟨⟨mw 8 9 rfl rfl, mw 0 2 rfl rfl, mw 8 12 rfl rfl, by decide, by decide, by decide +kernel⟩, mw 8 10 rfl rfl, mw 8 11 rfl rfl, TX10, 12, tyX10, cl_X10⟩
theorem cb_L_21 : CBV RL 21 yX10_spoil cX10_spoil 3 (some .int) 2 11 := ⟨⟨mw 10 6 rfl rfl, mw 0 2 rfl rfl, mw 10 9 rfl rfl, by decide, by decide, by decide +kernel⟩, mw 10 7 rfl rfl, mw 10 8 rfl rfl, TX10, 12, tyX10, cl_X10⟩
theorem cb_L_29 : CBV RL 29 yX10_sheet cX10_sheet 3 (some .int) 2 11 := ⟨⟨mw 13 7 rfl rfl, mw 0 2 rfl rfl, mw 13 10 rfl rfl, by decide, by decide, by decide +kernel⟩, mw 13 8 rfl rfl, mw 13 9 rfl rfl, TX10, 12, tyX10, cl_X10⟩
theorem cb_L_32 : CBV RL 32 yX10_cell cX10_cell 3 (some .int) 2 11 := ⟨⟨mw 15 27 rfl rfl, mw 0 2 rfl rfl, mw 15 30 rfl rfl, by decide, by decide, by decide +kernel⟩, mw 15 28 rfl rfl, mw 15 29 rfl rfl, TX10, 12, tyX10, cl_X10⟩
theorem cb_L_35 : CBV RL 35 yX10_shape cX10_shape 3 (some .int) 2 11 := ⟨⟨mw 16 6 rfl rfl, mw 0 2 rfl rfl, mw 16 9 rfl rfl, by decide, by decide, by decide +kernel⟩, mw 16 7 rfl rfl, mw 16 8 rfl rfl, TX10, 12, tyX10, cl_X10⟩
theorem cb_L_38 : CBV RL 38 yX10_turned cX10_turned 3 (some .int) 2 11 := ⟨⟨mw 18 3 rfl rfl, mw 0 2 rfl rfl, mw 18 6 rfl rfl, by decide, by decide, by decide +kernel⟩, mw 18 4 rfl rfl, mw 18 5 rfl rfl, TX10, 12, tyX10, cl_X10⟩
theorem cb_L_41 : CBV RL 41 yX10_place cX10_place 6 (some .int) 5 11 := ⟨⟨mw 18 18 rfl rfl, mw 0 2 rfl rfl, mw 18 21 rfl rfl, by decide, by decide, by decide +kernel⟩, mw 18 19 rfl rfl, mw 18 20 rfl rfl, TX10, 12, tyX10, cl_X10⟩
theorem cb_L_44 : CBV RL 44 yX10_take cX10_take 2 (some .int) 1 11 := ⟨⟨mw 21 18 rfl rfl, mw 0 2 rfl rfl, mw 21 21 rfl rfl, by decide, by decide, by decide +kernel⟩, mw 21 19 rfl rfl, mw 21 20 rfl rfl, TX10, 12, tyX10, cl_X10⟩
theorem cb_L_48 : CBV RL 48 yX10_part cX10_part 3 (some .int) 2 11 := ⟨⟨mw 22 20 rfl rfl, mw 0 2 rfl rfl, mw 22 23 rfl rfl, by decide, by decide, by decide +kernel⟩, mw 22 21 rfl rfl, mw 22 22 rfl rfl, TX10, 12, tyX10, cl_X10⟩
theorem cb_L_51 : CBV RL 51 yX10_reason cX10_reason 3 (some .int) 2 11 := ⟨⟨mw 24 23 rfl rfl, mw 0 2 rfl rfl, mw 24 26 rfl rfl, by decide, by decide, by decide +kernel⟩, mw 24 24 rfl rfl, mw 24 25 rfl rfl, TX10, 12, tyX10, cl_X10⟩
theorem cb_L_57 : CBV RL 57 yX10_nest cX10_nest 2 (some .int) 1 11 := ⟨⟨mw 25 19 rfl rfl, mw 0 2 rfl rfl, mw 25 22 rfl rfl, by decide, by decide, by decide +kernel⟩, mw 25 20 rfl rfl, mw 25 21 rfl rfl, TX10, 12, tyX10, cl_X10⟩
theorem cb_L_60 : CBV RL 60 yX10_remnant cX10_remnant 4 (some .int) 3 11 := ⟨⟨mw 27 18 rfl rfl, mw 0 2 rfl rfl, mw 27 21 rfl rfl, by decide, by decide, by decide +kernel⟩, mw 27 19 rfl rfl, mw 27 20 rfl rfl, TX10, 12, tyX10, cl_X10⟩
theorem cb_L_63 : CBV RL 63 yX10_keep cX10_keep 3 (some .int) 2 11 := ⟨⟨mw 30 3 rfl rfl, mw 0 2 rfl rfl, mw 30 6 rfl rfl, by decide, by decide, by decide +kernel⟩, mw 30 4 rfl rfl, mw 30 5 rfl rfl, TX10, 12, tyX10, cl_X10⟩
theorem cb_L_66 : CBV RL 66 yX10_way cX10_way 5 (some .int) 3 11 := ⟨⟨mw 30 23 rfl rfl, mw 0 2 rfl rfl, mw 30 26 rfl rfl, by decide, by decide, by decide +kernel⟩, mw 30 24 rfl rfl, mw 30 25 rfl rfl, TX10, 12, tyX10, cl_X10⟩
theorem cb_L_69 : CBV RL 69 yX10_usedShare cX10_usedShare 4 (some .float) 0 11 := ⟨⟨mw 33 8 rfl rfl, mw 0 2 rfl rfl, mw 33 11 rfl rfl, by decide, by decide, by decide +kernel⟩, mw 33 9 rfl rfl, mw 33 10 rfl rfl, TX10, 12, tyX10, cl_X10⟩
theorem cb_L_75 : CBV RL 75 yX10_count cX10_count 2 (some .int) 1 11 := ⟨⟨mw 33 21 rfl rfl, mw 0 2 rfl rfl, mw 33 24 rfl rfl, by decide, by decide, by decide +kernel⟩, mw 33 22 rfl rfl, mw 33 23 rfl rfl, TX10, 12, tyX10, cl_X10⟩
theorem cb_L_78 : CBV RL 78 yX10_feed cX10_feed 2 (some .int) 1 11 := ⟨⟨mw 34 17 rfl rfl, mw 0 2 rfl rfl, mw 34 20 rfl rfl, by decide, by decide, by decide +kernel⟩, mw 34 18 rfl rfl, mw 34 19 rfl rfl, TX10, 12, tyX10, cl_X10⟩
theorem cb_L_82 : CBV RL 82 yX10_fault cX10_fault 3 (some .int) 2 11 := ⟨⟨mw 41 1 rfl rfl, mw 0 2 rfl rfl, mw 41 4 rfl rfl, by decide, by decide, by decide +kernel⟩, mw 41 2 rfl rfl, mw 41 3 rfl rfl, TX10, 12, tyX10, cl_X10⟩
theorem cb_L_85 : CBV RL 85 yX10_undo cX10_undo 1 (some .int) 0 11 := ⟨⟨mw 41 12 rfl rfl, mw 0 2 rfl rfl, mw 41 15 rfl rfl, by decide, by decide, by decide +kernel⟩, mw 41 13 rfl rfl, mw 41 14 rfl rfl, TX10, 12, tyX10, cl_X10⟩
theorem cb_L_89 : CBV RL 89 yX10_restoreSnapshot cX10_restoreSnapshot 1 (some .int) 0 11 := ⟨⟨mw 42 4 rfl rfl, mw 0 2 rfl rfl, mw 42 7 rfl rfl, by decide, by decide, by decide +kernel⟩, mw 42 5 rfl rfl, mw 42 6 rfl rfl, TX10, 12, tyX10, cl_X10⟩
section
variable {p : Program} {l : Launch} {e : Env} {s : State} {m : MethodId} {args : Array Value} {below : List Frame} {meth : Method} {c : Code} {Q : State → Prop} {g : Geo}
def I_L_addSheet : List (Nat × Instr × Nat) := [(0, .aload 4, 2), (2, .iconst 0, 1), (3, .aload_n 0, 1), (4, .iload_n 1, 1), (5, .iload_n 2, 1), (6, .iload_n 3, 1), (7, .invokevirtual 7, 3), (10, .i2l, 1), (11, .lastore, 1), (12, .goto 11, 3), (15, .astore 5, 2), (17, .iconst 1, 1), (18, .ireturn, 1), (19, .astore 5, 2), (21, .iconst 2, 1), (22, .ireturn, 1), (23, .iconst 0, 1), (24, .ireturn, 1)]
set_option maxRecDepth 100000 in
theorem T_L_addSheet : ∀ q ∈ I_L_addSheet, decode cL_addSheet q.1 = .ok (q.2.1, q.2.2) := by decide +kernel
def f_L_addSheet_0 (x1 : Int32) (x2 : Int32) (x3 : Int32) (σ : St) : Option (Int32 × St) :=
  (f_X10_addSheet x1 x2 x3 σ).bind fun q1 => Sum.elim (fun x => if x.1 = "java/lang/IllegalArgumentException" then some (1, x.2) else if x.1 = "java/lang/IllegalStateException" then some (2, x.2) else none) (fun q1 => chk (inb 0 1) (some (0, up q1.2 122 (0 : Int32).toNatClampNeg q1.1))) q1
set_option maxHeartbeats 4000000 in
set_option maxRecDepth 100000 in
theorem w_L_addSheet_0 (X : Cx g RL cL_addSheet 6 (some .int) p s m args meth c) (TX : TXs g (GA g s.heap.size) s s.heap) (hst : l.stackTraces = false) (hTab : c.exceptionTable.toList = tableOf [(0, 12, 15, 13), (0, 12, 19, 15)]) (x1 : Int32) (x2 : Int32) (x3 : Int32) (σ : St) {w : Int32 × St} (KR : ∀ (v : Int32) (τ : St) (H : Heap) (locs : List Loc) (ls : Array Slot) (pc k n : Nat), w = (v, τ) → k ≤ 1 → n ≤ 6 → Wd g s τ H locs → decode cL_addSheet pc = .ok (.ireturn, 1) → W p l e (rmT 7 127 1 6) s m args below meth c H locs k n Q (F0 m pc ls [.int v])) {H : Heap} {locs : List Loc} {ls : Array Slot} (Y : Wd g s σ H locs) (hl : lv_has ls 6 [(0, .ref (g.2.2 (0))), (1, .int (x1)), (2, .int (x2)), (3, .int (x3)), (4, .ref (g.2.2 (122)))]) (h : f_L_addSheet_0 x1 x2 x3 σ = some w) : W p l e (rmT 7 127 1 6) s m args below meth c H locs 0 0 Q (F0 m 0 ls []) := by
  unfold f_L_addSheet_0 at h
  refine lv_aload X.1 X.2.1 (dk T_L_addSheet 0 rfl) (lv_at hl 4 rfl) ?_
  refine lv_iconst (v := 0) X.1 X.2.1 (dk T_L_addSheet 1 rfl) ic_0 ?_
  refine lv_aload_n X.1 X.2.1 (dk T_L_addSheet 2 rfl) rfl (lv_at hl 0 rfl) ?_
  refine lv_iload_n X.1 X.2.1 (dk T_L_addSheet 3 rfl) rfl (lv_at hl 1 rfl) ?_
  refine lv_iload_n X.1 X.2.1 (dk T_L_addSheet 4 rfl) rfl (lv_at hl 2 rfl) ?_
  refine lv_iload_n X.1 X.2.1 (dk T_L_addSheet 5 rfl) rfl (lv_at hl 3 rfl) ?_
  obtain ⟨q1, hq1, h⟩ := bs h
  refine gvT (rest := [.int (0), .ref (g.2.2 (122))]) X TX hst Y (c_X10_addSheet x1 x2 x3 σ hq1) cb_L_7 rfl hl.1 rfl rfl (Nat.le_of_ble_eq_true rfl) ⟨(Nat.le_of_ble_eq_true rfl), (Nat.le_of_ble_eq_true rfl)⟩ ⟨(Nat.le_of_ble_eq_true rfl), (Nat.le_of_ble_eq_true rfl)⟩ (dk T_L_addSheet 6 rfl) (fun E τ ce q9 H locs e2 Y h1 h2 h3 => ?_) (fun y3 t4 H locs e2 Y => ?_)
  · subst e2; replace h := sel h
    by_cases c5 : E = "java/lang/IllegalArgumentException"
    · replace h := ipos c5 h; subst c5
      refine vx_catch (own := RL) (name := "java/lang/IllegalArgumentException") X.2.2.2.2.1 [] ⟨0, 12, 15, 13⟩ [⟨0, 12, 19, 15⟩] (hTab.trans rfl) (fun _ hz => absurd hz List.not_mem_nil) rfl (by decide) (X.2.2.2.2.2.1 _ (mw 5 4 rfl rfl)) (va_Nw.use rfl (TX.2.2.2.1 _ (by decide))) h1 h2 h3 ?_
      refine lv_astore (lv' := [(5, .ref (q9)), (0, .ref (g.2.2 (0))), (1, .int (x1)), (2, .int (x2)), (3, .int (x3)), (4, .ref (g.2.2 (122)))]) X.1 X.2.1 (dk T_L_addSheet 10 rfl) hl (Nat.le_of_ble_eq_true rfl) rfl (fun ls hl => ?_)
      refine lv_iconst (v := 1) X.1 X.2.1 (dk T_L_addSheet 11 rfl) ic_1 ?_
      exact KR 1 τ _ _ _ _ _ _ (Option.some.inj h).symm (Nat.le_of_ble_eq_true rfl) (Nat.le_of_ble_eq_true rfl) Y (dk T_L_addSheet 12 rfl)
    replace h := ineg c5 h
    by_cases c6 : E = "java/lang/IllegalStateException"
    · replace h := ipos c6 h; subst c6
      refine vx_catch (own := RL) (name := "java/lang/IllegalStateException") X.2.2.2.2.1 [⟨0, 12, 15, 13⟩] ⟨0, 12, 19, 15⟩ [] (hTab.trans rfl) (List.forall_mem_cons.mpr ⟨Or.inr ⟨by decide, "java/lang/IllegalArgumentException", X.2.2.2.2.2.1 _ (mw 5 4 rfl rfl), TX.2.2.2.2.2 ("java/lang/IllegalStateException", "java/lang/IllegalArgumentException") (by decide)⟩, fun _ hz => absurd hz List.not_mem_nil⟩) rfl (by decide) (X.2.2.2.2.2.1 _ (mw 5 5 rfl rfl)) (va_Nw.use rfl (TX.2.2.2.1 _ (by decide))) h1 h2 h3 ?_
      refine lv_astore (lv' := [(5, .ref (q9)), (0, .ref (g.2.2 (0))), (1, .int (x1)), (2, .int (x2)), (3, .int (x3)), (4, .ref (g.2.2 (122)))]) X.1 X.2.1 (dk T_L_addSheet 13 rfl) hl (Nat.le_of_ble_eq_true rfl) rfl (fun ls hl => ?_)
      refine lv_iconst (v := 2) X.1 X.2.1 (dk T_L_addSheet 14 rfl) ic_2 ?_
      exact KR 2 τ _ _ _ _ _ _ (Option.some.inj h).symm (Nat.le_of_ble_eq_true rfl) (Nat.le_of_ble_eq_true rfl) Y (dk T_L_addSheet 15 rfl)
    replace h := ineg c6 h
    cases h
  · subst e2; replace h := ser h; try dsimp only at h
    refine lv_i2l X.1 X.2.1 (dk T_L_addSheet 7 rfl) rfl ?_
    obtain ⟨g7, h⟩ := gd h
    refine gls X Y (x := y3) rfl (inp g7) (dk T_L_addSheet 8 rfl) (fun H locs Y => ?_)
    refine lv_goto (tgt := 23) X.1 X.2.1 (dk T_L_addSheet 9 rfl) rfl ?_
    refine lv_iconst (v := 0) X.1 X.2.1 (dk T_L_addSheet 16 rfl) ic_0 ?_
    exact KR 0 (up t4 122 (0 : Int32).toNatClampNeg y3) _ _ _ _ _ _ (Option.some.inj h).symm (Nat.le_of_ble_eq_true rfl) (Nat.le_of_ble_eq_true rfl) Y (dk T_L_addSheet 17 rfl)
def f_L_addSheet (x1 : Int32) (x2 : Int32) (x3 : Int32) (σ : St) : Option (Int32 × St) := f_L_addSheet_0 x1 x2 x3 σ
set_option maxHeartbeats 4000000 in
set_option maxRecDepth 100000 in
theorem c_L_addSheet {l : Launch} {g : Geo} (x1 : Int32) (x2 : Int32) (x3 : Int32) (σ : St) {w : Int32 × St} (h : f_L_addSheet x1 x2 x3 σ = some w) : CtH l yL_addSheet cL_addSheet 6 (some .int) [(0, 12, 15, 13), (0, 12, 19, 15)] 7 127 1 6 g [.ref (g.2.2 (0)), .int (x1), .int (x2), .int (x3), .ref (g.2.2 (122))] σ w := enH .int (by decide) rfl (fun _ => rfl) (Nat.le_of_ble_eq_true rfl) (fun p e s m args below meth c Q X TX hst hTab Y ls hl KR => w_L_addSheet_0 X TX hst hTab x1 x2 x3 σ KR Y hl h)
def I_L_addShape : List (Nat × Instr × Nat) := [(0, .aload 6, 2), (2, .iconst 0, 1), (3, .aload_n 0, 1), (4, .iload_n 1, 1), (5, .iload_n 2, 1), (6, .iload_n 3, 1), (7, .iload 4, 2), (9, .iload 5, 2), (11, .invokevirtual 17, 3), (14, .i2l, 1), (15, .lastore, 1), (16, .goto 11, 3), (19, .astore 7, 2), (21, .iconst 1, 1), (22, .ireturn, 1), (23, .astore 7, 2), (25, .iconst 2, 1), (26, .ireturn, 1), (27, .iconst 0, 1), (28, .ireturn, 1)]
set_option maxRecDepth 100000 in
theorem T_L_addShape : ∀ q ∈ I_L_addShape, decode cL_addShape q.1 = .ok (q.2.1, q.2.2) := by decide +kernel
def f_L_addShape_0 (x1 : Int32) (x2 : Int32) (x3 : Int32) (x4 : Int32) (x5 : Int32) (σ : St) : Option (Int32 × St) :=
  (f_X10_addShape x1 x2 x3 x4 x5 σ).bind fun q1 => Sum.elim (fun x => if x.1 = "java/lang/IllegalArgumentException" then some (1, x.2) else if x.1 = "java/lang/IllegalStateException" then some (2, x.2) else none) (fun q1 => chk (inb 0 1) (some (0, up q1.2 122 (0 : Int32).toNatClampNeg q1.1))) q1
set_option maxHeartbeats 4000000 in
set_option maxRecDepth 100000 in
theorem w_L_addShape_0 (X : Cx g RL cL_addShape 8 (some .int) p s m args meth c) (TX : TXs g (GA g s.heap.size) s s.heap) (hst : l.stackTraces = false) (hTab : c.exceptionTable.toList = tableOf [(0, 16, 19, 13), (0, 16, 23, 15)]) (x1 : Int32) (x2 : Int32) (x3 : Int32) (x4 : Int32) (x5 : Int32) (σ : St) {w : Int32 × St} (KR : ∀ (v : Int32) (τ : St) (H : Heap) (locs : List Loc) (ls : Array Slot) (pc k n : Nat), w = (v, τ) → k ≤ 1 → n ≤ 6 → Wd g s τ H locs → decode cL_addShape pc = .ok (.ireturn, 1) → W p l e (rmT 7 129 1 6) s m args below meth c H locs k n Q (F0 m pc ls [.int v])) {H : Heap} {locs : List Loc} {ls : Array Slot} (Y : Wd g s σ H locs) (hl : lv_has ls 8 [(0, .ref (g.2.2 (0))), (1, .int (x1)), (2, .int (x2)), (3, .int (x3)), (4, .int (x4)), (5, .int (x5)), (6, .ref (g.2.2 (122)))]) (h : f_L_addShape_0 x1 x2 x3 x4 x5 σ = some w) : W p l e (rmT 7 129 1 6) s m args below meth c H locs 0 0 Q (F0 m 0 ls []) := by
  unfold f_L_addShape_0 at h
  refine lv_aload X.1 X.2.1 (dk T_L_addShape 0 rfl) (lv_at hl 6 rfl) ?_
  refine lv_iconst (v := 0) X.1 X.2.1 (dk T_L_addShape 1 rfl) ic_0 ?_
  refine lv_aload_n X.1 X.2.1 (dk T_L_addShape 2 rfl) rfl (lv_at hl 0 rfl) ?_
  refine lv_iload_n X.1 X.2.1 (dk T_L_addShape 3 rfl) rfl (lv_at hl 1 rfl) ?_
  refine lv_iload_n X.1 X.2.1 (dk T_L_addShape 4 rfl) rfl (lv_at hl 2 rfl) ?_
  refine lv_iload_n X.1 X.2.1 (dk T_L_addShape 5 rfl) rfl (lv_at hl 3 rfl) ?_
  refine lv_iload X.1 X.2.1 (dk T_L_addShape 6 rfl) (lv_at hl 4 rfl) ?_
  refine lv_iload X.1 X.2.1 (dk T_L_addShape 7 rfl) (lv_at hl 5 rfl) ?_
  obtain ⟨q1, hq1, h⟩ := bs h
  refine gvT (rest := [.int (0), .ref (g.2.2 (122))]) X TX hst Y (c_X10_addShape x1 x2 x3 x4 x5 σ hq1) cb_L_17 rfl hl.1 rfl rfl (Nat.le_of_ble_eq_true rfl) ⟨(Nat.le_of_ble_eq_true rfl), (Nat.le_of_ble_eq_true rfl)⟩ ⟨(Nat.le_of_ble_eq_true rfl), (Nat.le_of_ble_eq_true rfl)⟩ (dk T_L_addShape 8 rfl) (fun E τ ce q9 H locs e2 Y h1 h2 h3 => ?_) (fun y3 t4 H locs e2 Y => ?_)
  · subst e2; replace h := sel h
    by_cases c5 : E = "java/lang/IllegalArgumentException"
    · replace h := ipos c5 h; subst c5
      refine vx_catch (own := RL) (name := "java/lang/IllegalArgumentException") X.2.2.2.2.1 [] ⟨0, 16, 19, 13⟩ [⟨0, 16, 23, 15⟩] (hTab.trans rfl) (fun _ hz => absurd hz List.not_mem_nil) rfl (by decide) (X.2.2.2.2.2.1 _ (mw 5 4 rfl rfl)) (va_Nw.use rfl (TX.2.2.2.1 _ (by decide))) h1 h2 h3 ?_
      refine lv_astore (lv' := [(7, .ref (q9)), (0, .ref (g.2.2 (0))), (1, .int (x1)), (2, .int (x2)), (3, .int (x3)), (4, .int (x4)), (5, .int (x5)), (6, .ref (g.2.2 (122)))]) X.1 X.2.1 (dk T_L_addShape 12 rfl) hl (Nat.le_of_ble_eq_true rfl) rfl (fun ls hl => ?_)
      refine lv_iconst (v := 1) X.1 X.2.1 (dk T_L_addShape 13 rfl) ic_1 ?_
      exact KR 1 τ _ _ _ _ _ _ (Option.some.inj h).symm (Nat.le_of_ble_eq_true rfl) (Nat.le_of_ble_eq_true rfl) Y (dk T_L_addShape 14 rfl)
    replace h := ineg c5 h
    by_cases c6 : E = "java/lang/IllegalStateException"
    · replace h := ipos c6 h; subst c6
      refine vx_catch (own := RL) (name := "java/lang/IllegalStateException") X.2.2.2.2.1 [⟨0, 16, 19, 13⟩] ⟨0, 16, 23, 15⟩ [] (hTab.trans rfl) (List.forall_mem_cons.mpr ⟨Or.inr ⟨by decide, "java/lang/IllegalArgumentException", X.2.2.2.2.2.1 _ (mw 5 4 rfl rfl), TX.2.2.2.2.2 ("java/lang/IllegalStateException", "java/lang/IllegalArgumentException") (by decide)⟩, fun _ hz => absurd hz List.not_mem_nil⟩) rfl (by decide) (X.2.2.2.2.2.1 _ (mw 5 5 rfl rfl)) (va_Nw.use rfl (TX.2.2.2.1 _ (by decide))) h1 h2 h3 ?_
      refine lv_astore (lv' := [(7, .ref (q9)), (0, .ref (g.2.2 (0))), (1, .int (x1)), (2, .int (x2)), (3, .int (x3)), (4, .int (x4)), (5, .int (x5)), (6, .ref (g.2.2 (122)))]) X.1 X.2.1 (dk T_L_addShape 15 rfl) hl (Nat.le_of_ble_eq_true rfl) rfl (fun ls hl => ?_)
      refine lv_iconst (v := 2) X.1 X.2.1 (dk T_L_addShape 16 rfl) ic_2 ?_
      exact KR 2 τ _ _ _ _ _ _ (Option.some.inj h).symm (Nat.le_of_ble_eq_true rfl) (Nat.le_of_ble_eq_true rfl) Y (dk T_L_addShape 17 rfl)
    replace h := ineg c6 h
    cases h
  · subst e2; replace h := ser h; try dsimp only at h
    refine lv_i2l X.1 X.2.1 (dk T_L_addShape 9 rfl) rfl ?_
    obtain ⟨g7, h⟩ := gd h
    refine gls X Y (x := y3) rfl (inp g7) (dk T_L_addShape 10 rfl) (fun H locs Y => ?_)
    refine lv_goto (tgt := 27) X.1 X.2.1 (dk T_L_addShape 11 rfl) rfl ?_
    refine lv_iconst (v := 0) X.1 X.2.1 (dk T_L_addShape 18 rfl) ic_0 ?_
    exact KR 0 (up t4 122 (0 : Int32).toNatClampNeg y3) _ _ _ _ _ _ (Option.some.inj h).symm (Nat.le_of_ble_eq_true rfl) (Nat.le_of_ble_eq_true rfl) Y (dk T_L_addShape 19 rfl)
def f_L_addShape (x1 : Int32) (x2 : Int32) (x3 : Int32) (x4 : Int32) (x5 : Int32) (σ : St) : Option (Int32 × St) := f_L_addShape_0 x1 x2 x3 x4 x5 σ
set_option maxHeartbeats 4000000 in
set_option maxRecDepth 100000 in
theorem c_L_addShape {l : Launch} {g : Geo} (x1 : Int32) (x2 : Int32) (x3 : Int32) (x4 : Int32) (x5 : Int32) (σ : St) {w : Int32 × St} (h : f_L_addShape x1 x2 x3 x4 x5 σ = some w) : CtH l yL_addShape cL_addShape 8 (some .int) [(0, 16, 19, 13), (0, 16, 23, 15)] 7 129 1 6 g [.ref (g.2.2 (0)), .int (x1), .int (x2), .int (x3), .int (x4), .int (x5), .ref (g.2.2 (122))] σ w := enH .int (by decide) rfl (fun _ => rfl) (Nat.le_of_ble_eq_true rfl) (fun p e s m args below meth c Q X TX hst hTab Y ls hl KR => w_L_addShape_0 X TX hst hTab x1 x2 x3 x4 x5 σ KR Y hl h)
def I_L_spoil : List (Nat × Instr × Nat) := [(0, .aload_n 3, 1), (1, .iconst 0, 1), (2, .aload_n 0, 1), (3, .iload_n 1, 1), (4, .iload_n 2, 1), (5, .invokevirtual 21, 3), (8, .i2l, 1), (9, .lastore, 1), (10, .goto 11, 3), (13, .astore 4, 2), (15, .iconst 1, 1), (16, .ireturn, 1), (17, .astore 4, 2), (19, .iconst 2, 1), (20, .ireturn, 1), (21, .iconst 0, 1), (22, .ireturn, 1)]
set_option maxRecDepth 100000 in
theorem T_L_spoil : ∀ q ∈ I_L_spoil, decode cL_spoil q.1 = .ok (q.2.1, q.2.2) := by decide +kernel
def f_L_spoil_0 (x1 : Int32) (x2 : Int32) (σ : St) : Option (Int32 × St) :=
  (f_X10_spoil x1 x2 σ).bind fun q1 => Sum.elim (fun x => if x.1 = "java/lang/IndexOutOfBoundsException" then some (1, x.2) else if x.1 = "java/lang/UnsupportedOperationException" then some (2, x.2) else none) (fun q1 => chk (inb 0 1) (some (0, up q1.2 122 (0 : Int32).toNatClampNeg q1.1))) q1
set_option maxHeartbeats 4000000 in
set_option maxRecDepth 100000 in
theorem w_L_spoil_0 (X : Cx g RL cL_spoil 5 (some .int) p s m args meth c) (TX : TXs g (GA g s.heap.size) s s.heap) (hst : l.stackTraces = false) (hTab : c.exceptionTable.toList = tableOf [(0, 10, 13, 25), (0, 10, 17, 27)]) (x1 : Int32) (x2 : Int32) (σ : St) {w : Int32 × St} (KR : ∀ (v : Int32) (τ : St) (H : Heap) (locs : List Loc) (ls : Array Slot) (pc k n : Nat), w = (v, τ) → k ≤ 3 → n ≤ 18 → Wd g s τ H locs → decode cL_spoil pc = .ok (.ireturn, 1) → W p l e (rmT 9 155 3 18) s m args below meth c H locs k n Q (F0 m pc ls [.int v])) {H : Heap} {locs : List Loc} {ls : Array Slot} (Y : Wd g s σ H locs) (hl : lv_has ls 5 [(0, .ref (g.2.2 (0))), (1, .int (x1)), (2, .int (x2)), (3, .ref (g.2.2 (122)))]) (h : f_L_spoil_0 x1 x2 σ = some w) : W p l e (rmT 9 155 3 18) s m args below meth c H locs 0 0 Q (F0 m 0 ls []) := by
  unfold f_L_spoil_0 at h
  refine lv_aload_n X.1 X.2.1 (dk T_L_spoil 0 rfl) rfl (lv_at hl 3 rfl) ?_
  refine lv_iconst (v := 0) X.1 X.2.1 (dk T_L_spoil 1 rfl) ic_0 ?_
  refine lv_aload_n X.1 X.2.1 (dk T_L_spoil 2 rfl) rfl (lv_at hl 0 rfl) ?_
  refine lv_iload_n X.1 X.2.1 (dk T_L_spoil 3 rfl) rfl (lv_at hl 1 rfl) ?_
  refine lv_iload_n X.1 X.2.1 (dk T_L_spoil 4 rfl) rfl (lv_at hl 2 rfl) ?_
  obtain ⟨q1, hq1, h⟩ := bs h
  refine gvT (rest := [.int (0), .ref (g.2.2 (122))]) X TX hst Y (c_X10_spoil x1 x2 σ hq1) cb_L_21 rfl hl.1 rfl rfl (Nat.le_of_ble_eq_true rfl) ⟨(Nat.le_of_ble_eq_true rfl), (Nat.le_of_ble_eq_true rfl)⟩ ⟨(Nat.le_of_ble_eq_true rfl), (Nat.le_of_ble_eq_true rfl)⟩ (dk T_L_spoil 5 rfl) (fun E τ ce q9 H locs e2 Y h1 h2 h3 => ?_) (fun y3 t4 H locs e2 Y => ?_)
  · subst e2; replace h := sel h
    by_cases c5 : E = "java/lang/IndexOutOfBoundsException"
    · replace h := ipos c5 h; subst c5
      refine vx_catch (own := RL) (name := "java/lang/IndexOutOfBoundsException") X.2.2.2.2.1 [] ⟨0, 10, 13, 25⟩ [⟨0, 10, 17, 27⟩] (hTab.trans rfl) (fun _ hz => absurd hz List.not_mem_nil) rfl (by decide) (X.2.2.2.2.2.1 _ (mw 10 4 rfl rfl)) (va_Nw.use rfl (TX.2.2.2.1 _ (by decide))) h1 h2 h3 ?_
      refine lv_astore (lv' := [(4, .ref (q9)), (0, .ref (g.2.2 (0))), (1, .int (x1)), (2, .int (x2)), (3, .ref (g.2.2 (122)))]) X.1 X.2.1 (dk T_L_spoil 9 rfl) hl (Nat.le_of_ble_eq_true rfl) rfl (fun ls hl => ?_)
      refine lv_iconst (v := 1) X.1 X.2.1 (dk T_L_spoil 10 rfl) ic_1 ?_
      exact KR 1 τ _ _ _ _ _ _ (Option.some.inj h).symm (Nat.le_of_ble_eq_true rfl) (Nat.le_of_ble_eq_true rfl) Y (dk T_L_spoil 11 rfl)
    replace h := ineg c5 h
    by_cases c6 : E = "java/lang/UnsupportedOperationException"
    · replace h := ipos c6 h; subst c6
      refine vx_catch (own := RL) (name := "java/lang/UnsupportedOperationException") X.2.2.2.2.1 [⟨0, 10, 13, 25⟩] ⟨0, 10, 17, 27⟩ [] (hTab.trans rfl) (List.forall_mem_cons.mpr ⟨Or.inr ⟨by decide, "java/lang/IndexOutOfBoundsException", X.2.2.2.2.2.1 _ (mw 10 4 rfl rfl), TX.2.2.2.2.2 ("java/lang/UnsupportedOperationException", "java/lang/IndexOutOfBoundsException") (by decide)⟩, fun _ hz => absurd hz List.not_mem_nil⟩) rfl (by decide) (X.2.2.2.2.2.1 _ (mw 10 5 rfl rfl)) (va_Nw.use rfl (TX.2.2.2.1 _ (by decide))) h1 h2 h3 ?_
      refine lv_astore (lv' := [(4, .ref (q9)), (0, .ref (g.2.2 (0))), (1, .int (x1)), (2, .int (x2)), (3, .ref (g.2.2 (122)))]) X.1 X.2.1 (dk T_L_spoil 12 rfl) hl (Nat.le_of_ble_eq_true rfl) rfl (fun ls hl => ?_)
      refine lv_iconst (v := 2) X.1 X.2.1 (dk T_L_spoil 13 rfl) ic_2 ?_
      exact KR 2 τ _ _ _ _ _ _ (Option.some.inj h).symm (Nat.le_of_ble_eq_true rfl) (Nat.le_of_ble_eq_true rfl) Y (dk T_L_spoil 14 rfl)
    replace h := ineg c6 h
    cases h
  · subst e2; replace h := ser h; try dsimp only at h
    refine lv_i2l X.1 X.2.1 (dk T_L_spoil 6 rfl) rfl ?_
    obtain ⟨g7, h⟩ := gd h
    refine gls X Y (x := y3) rfl (inp g7) (dk T_L_spoil 7 rfl) (fun H locs Y => ?_)
    refine lv_goto (tgt := 21) X.1 X.2.1 (dk T_L_spoil 8 rfl) rfl ?_
    refine lv_iconst (v := 0) X.1 X.2.1 (dk T_L_spoil 15 rfl) ic_0 ?_
    exact KR 0 (up t4 122 (0 : Int32).toNatClampNeg y3) _ _ _ _ _ _ (Option.some.inj h).symm (Nat.le_of_ble_eq_true rfl) (Nat.le_of_ble_eq_true rfl) Y (dk T_L_spoil 16 rfl)
def f_L_spoil (x1 : Int32) (x2 : Int32) (σ : St) : Option (Int32 × St) := f_L_spoil_0 x1 x2 σ
set_option maxHeartbeats 4000000 in
set_option maxRecDepth 100000 in
theorem c_L_spoil {l : Launch} {g : Geo} (x1 : Int32) (x2 : Int32) (σ : St) {w : Int32 × St} (h : f_L_spoil x1 x2 σ = some w) : CtH l yL_spoil cL_spoil 5 (some .int) [(0, 10, 13, 25), (0, 10, 17, 27)] 9 155 3 18 g [.ref (g.2.2 (0)), .int (x1), .int (x2), .ref (g.2.2 (122))] σ w := enH .int (by decide) rfl (fun _ => rfl) (Nat.le_of_ble_eq_true rfl) (fun p e s m args below meth c Q X TX hst hTab Y ls hl KR => w_L_spoil_0 X TX hst hTab x1 x2 σ KR Y hl h)
def I_L_sheet : List (Nat × Instr × Nat) := [(0, .aload_n 3, 1), (1, .iconst 0, 1), (2, .aload_n 0, 1), (3, .iload_n 1, 1), (4, .iload_n 2, 1), (5, .invokevirtual 29, 3), (8, .i2l, 1), (9, .lastore, 1), (10, .goto 11, 3), (13, .astore 4, 2), (15, .iconst 1, 1), (16, .ireturn, 1), (17, .astore 4, 2), (19, .iconst 2, 1), (20, .ireturn, 1), (21, .iconst 0, 1), (22, .ireturn, 1)]
set_option maxRecDepth 100000 in
theorem T_L_sheet : ∀ q ∈ I_L_sheet, decode cL_sheet q.1 = .ok (q.2.1, q.2.2) := by decide +kernel
def f_L_sheet_0 (x1 : Int32) (x2 : Int32) (σ : St) : Option (Int32 × St) :=
  (f_X10_sheet x1 x2 σ).bind fun q1 => Sum.elim (fun x => if x.1 = "java/lang/IndexOutOfBoundsException" then some (1, x.2) else if x.1 = "java/lang/IllegalArgumentException" then some (2, x.2) else none) (fun q1 => chk (inb 0 1) (some (0, up q1.2 122 (0 : Int32).toNatClampNeg q1.1))) q1
set_option maxHeartbeats 4000000 in
set_option maxRecDepth 100000 in
theorem w_L_sheet_0 (X : Cx g RL cL_sheet 5 (some .int) p s m args meth c) (TX : TXs g (GA g s.heap.size) s s.heap) (hst : l.stackTraces = false) (hTab : c.exceptionTable.toList = tableOf [(0, 10, 13, 25), (0, 10, 17, 13)]) (x1 : Int32) (x2 : Int32) (σ : St) {w : Int32 × St} (KR : ∀ (v : Int32) (τ : St) (H : Heap) (locs : List Loc) (ls : Array Slot) (pc k n : Nat), w = (v, τ) → k ≤ 2 → n ≤ 12 → Wd g s τ H locs → decode cL_sheet pc = .ok (.ireturn, 1) → W p l e (rmT 8 133 2 12) s m args below meth c H locs k n Q (F0 m pc ls [.int v])) {H : Heap} {locs : List Loc} {ls : Array Slot} (Y : Wd g s σ H locs) (hl : lv_has ls 5 [(0, .ref (g.2.2 (0))), (1, .int (x1)), (2, .int (x2)), (3, .ref (g.2.2 (122)))]) (h : f_L_sheet_0 x1 x2 σ = some w) : W p l e (rmT 8 133 2 12) s m args below meth c H locs 0 0 Q (F0 m 0 ls []) := by
  unfold f_L_sheet_0 at h
  refine lv_aload_n X.1 X.2.1 (dk T_L_sheet 0 rfl) rfl (lv_at hl 3 rfl) ?_
  refine lv_iconst (v := 0) X.1 X.2.1 (dk T_L_sheet 1 rfl) ic_0 ?_
  refine lv_aload_n X.1 X.2.1 (dk T_L_sheet 2 rfl) rfl (lv_at hl 0 rfl) ?_
  refine lv_iload_n X.1 X.2.1 (dk T_L_sheet 3 rfl) rfl (lv_at hl 1 rfl) ?_
  refine lv_iload_n X.1 X.2.1 (dk T_L_sheet 4 rfl) rfl (lv_at hl 2 rfl) ?_
  obtain ⟨q1, hq1, h⟩ := bs h
  refine gvT (rest := [.int (0), .ref (g.2.2 (122))]) X TX hst Y (c_X10_sheet x1 x2 σ hq1) cb_L_29 rfl hl.1 rfl rfl (Nat.le_of_ble_eq_true rfl) ⟨(Nat.le_of_ble_eq_true rfl), (Nat.le_of_ble_eq_true rfl)⟩ ⟨(Nat.le_of_ble_eq_true rfl), (Nat.le_of_ble_eq_true rfl)⟩ (dk T_L_sheet 5 rfl) (fun E τ ce q9 H locs e2 Y h1 h2 h3 => ?_) (fun y3 t4 H locs e2 Y => ?_)
  · subst e2; replace h := sel h
    by_cases c5 : E = "java/lang/IndexOutOfBoundsException"
    · replace h := ipos c5 h; subst c5
      refine vx_catch (own := RL) (name := "java/lang/IndexOutOfBoundsException") X.2.2.2.2.1 [] ⟨0, 10, 13, 25⟩ [⟨0, 10, 17, 13⟩] (hTab.trans rfl) (fun _ hz => absurd hz List.not_mem_nil) rfl (by decide) (X.2.2.2.2.2.1 _ (mw 10 4 rfl rfl)) (va_Nw.use rfl (TX.2.2.2.1 _ (by decide))) h1 h2 h3 ?_
      refine lv_astore (lv' := [(4, .ref (q9)), (0, .ref (g.2.2 (0))), (1, .int (x1)), (2, .int (x2)), (3, .ref (g.2.2 (122)))]) X.1 X.2.1 (dk T_L_sheet 9 rfl) hl (Nat.le_of_ble_eq_true rfl) rfl (fun ls hl => ?_)
      refine lv_iconst (v := 1) X.1 X.2.1 (dk T_L_sheet 10 rfl) ic_1 ?_
      exact KR 1 τ _ _ _ _ _ _ (Option.some.inj h).symm (Nat.le_of_ble_eq_true rfl) (Nat.le_of_ble_eq_true rfl) Y (dk T_L_sheet 11 rfl)
    replace h := ineg c5 h
    by_cases c6 : E = "java/lang/IllegalArgumentException"
    · replace h := ipos c6 h; subst c6
      refine vx_catch (own := RL) (name := "java/lang/IllegalArgumentException") X.2.2.2.2.1 [⟨0, 10, 13, 25⟩] ⟨0, 10, 17, 13⟩ [] (hTab.trans rfl) (List.forall_mem_cons.mpr ⟨Or.inr ⟨by decide, "java/lang/IndexOutOfBoundsException", X.2.2.2.2.2.1 _ (mw 10 4 rfl rfl), TX.2.2.2.2.2 ("java/lang/IllegalArgumentException", "java/lang/IndexOutOfBoundsException") (by decide)⟩, fun _ hz => absurd hz List.not_mem_nil⟩) rfl (by decide) (X.2.2.2.2.2.1 _ (mw 5 4 rfl rfl)) (va_Nw.use rfl (TX.2.2.2.1 _ (by decide))) h1 h2 h3 ?_
      refine lv_astore (lv' := [(4, .ref (q9)), (0, .ref (g.2.2 (0))), (1, .int (x1)), (2, .int (x2)), (3, .ref (g.2.2 (122)))]) X.1 X.2.1 (dk T_L_sheet 12 rfl) hl (Nat.le_of_ble_eq_true rfl) rfl (fun ls hl => ?_)
      refine lv_iconst (v := 2) X.1 X.2.1 (dk T_L_sheet 13 rfl) ic_2 ?_
      exact KR 2 τ _ _ _ _ _ _ (Option.some.inj h).symm (Nat.le_of_ble_eq_true rfl) (Nat.le_of_ble_eq_true rfl) Y (dk T_L_sheet 14 rfl)
    replace h := ineg c6 h
    cases h
  · subst e2; replace h := ser h; try dsimp only at h
    refine lv_i2l X.1 X.2.1 (dk T_L_sheet 6 rfl) rfl ?_
    obtain ⟨g7, h⟩ := gd h
    refine gls X Y (x := y3) rfl (inp g7) (dk T_L_sheet 7 rfl) (fun H locs Y => ?_)
    refine lv_goto (tgt := 21) X.1 X.2.1 (dk T_L_sheet 8 rfl) rfl ?_
    refine lv_iconst (v := 0) X.1 X.2.1 (dk T_L_sheet 15 rfl) ic_0 ?_
    exact KR 0 (up t4 122 (0 : Int32).toNatClampNeg y3) _ _ _ _ _ _ (Option.some.inj h).symm (Nat.le_of_ble_eq_true rfl) (Nat.le_of_ble_eq_true rfl) Y (dk T_L_sheet 16 rfl)
def f_L_sheet (x1 : Int32) (x2 : Int32) (σ : St) : Option (Int32 × St) := f_L_sheet_0 x1 x2 σ
set_option maxHeartbeats 4000000 in
set_option maxRecDepth 100000 in
theorem c_L_sheet {l : Launch} {g : Geo} (x1 : Int32) (x2 : Int32) (σ : St) {w : Int32 × St} (h : f_L_sheet x1 x2 σ = some w) : CtH l yL_sheet cL_sheet 5 (some .int) [(0, 10, 13, 25), (0, 10, 17, 13)] 8 133 2 12 g [.ref (g.2.2 (0)), .int (x1), .int (x2), .ref (g.2.2 (122))] σ w := enH .int (by decide) rfl (fun _ => rfl) (Nat.le_of_ble_eq_true rfl) (fun p e s m args below meth c Q X TX hst hTab Y ls hl KR => w_L_sheet_0 X TX hst hTab x1 x2 σ KR Y hl h)
def I_L_cell : List (Nat × Instr × Nat) := [(0, .aload_n 3, 1), (1, .iconst 0, 1), (2, .aload_n 0, 1), (3, .iload_n 1, 1), (4, .iload_n 2, 1), (5, .invokevirtual 32, 3), (8, .i2l, 1), (9, .lastore, 1), (10, .goto 7, 3), (13, .astore 4, 2), (15, .iconst 1, 1), (16, .ireturn, 1), (17, .iconst 0, 1), (18, .ireturn, 1)]
set_option maxRecDepth 100000 in
theorem T_L_cell : ∀ q ∈ I_L_cell, decode cL_cell q.1 = .ok (q.2.1, q.2.2) := by decide +kernel
def f_L_cell_0 (x1 : Int32) (x2 : Int32) (σ : St) : Option (Int32 × St) :=
  (f_X10_cell x1 x2 σ).bind fun q1 => Sum.elim (fun x => if x.1 = "java/lang/IndexOutOfBoundsException" then some (1, x.2) else none) (fun q1 => chk (inb 0 1) (some (0, up q1.2 122 (0 : Int32).toNatClampNeg q1.1))) q1
set_option maxHeartbeats 4000000 in
set_option maxRecDepth 100000 in
theorem w_L_cell_0 (X : Cx g RL cL_cell 5 (some .int) p s m args meth c) (TX : TXs g (GA g s.heap.size) s s.heap) (hst : l.stackTraces = false) (hTab : c.exceptionTable.toList = tableOf [(0, 10, 13, 25)]) (x1 : Int32) (x2 : Int32) (σ : St) {w : Int32 × St} (KR : ∀ (v : Int32) (τ : St) (H : Heap) (locs : List Loc) (ls : Array Slot) (pc k n : Nat), w = (v, τ) → k ≤ 2 → n ≤ 12 → Wd g s τ H locs → decode cL_cell pc = .ok (.ireturn, 1) → W p l e (rmT 9 155 2 12) s m args below meth c H locs k n Q (F0 m pc ls [.int v])) {H : Heap} {locs : List Loc} {ls : Array Slot} (Y : Wd g s σ H locs) (hl : lv_has ls 5 [(0, .ref (g.2.2 (0))), (1, .int (x1)), (2, .int (x2)), (3, .ref (g.2.2 (122)))]) (h : f_L_cell_0 x1 x2 σ = some w) : W p l e (rmT 9 155 2 12) s m args below meth c H locs 0 0 Q (F0 m 0 ls []) := by
  unfold f_L_cell_0 at h
  refine lv_aload_n X.1 X.2.1 (dk T_L_cell 0 rfl) rfl (lv_at hl 3 rfl) ?_
  refine lv_iconst (v := 0) X.1 X.2.1 (dk T_L_cell 1 rfl) ic_0 ?_
  refine lv_aload_n X.1 X.2.1 (dk T_L_cell 2 rfl) rfl (lv_at hl 0 rfl) ?_
  refine lv_iload_n X.1 X.2.1 (dk T_L_cell 3 rfl) rfl (lv_at hl 1 rfl) ?_
  refine lv_iload_n X.1 X.2.1 (dk T_L_cell 4 rfl) rfl (lv_at hl 2 rfl) ?_
  obtain ⟨q1, hq1, h⟩ := bs h
  refine gvT (rest := [.int (0), .ref (g.2.2 (122))]) X TX hst Y (c_X10_cell x1 x2 σ hq1) cb_L_32 rfl hl.1 rfl rfl (Nat.le_of_ble_eq_true rfl) ⟨(Nat.le_of_ble_eq_true rfl), (Nat.le_of_ble_eq_true rfl)⟩ ⟨(Nat.le_of_ble_eq_true rfl), (Nat.le_of_ble_eq_true rfl)⟩ (dk T_L_cell 5 rfl) (fun E τ ce q9 H locs e2 Y h1 h2 h3 => ?_) (fun y3 t4 H locs e2 Y => ?_)
  · subst e2; replace h := sel h
    by_cases c5 : E = "java/lang/IndexOutOfBoundsException"
    · replace h := ipos c5 h; subst c5
      refine vx_catch (own := RL) (name := "java/lang/IndexOutOfBoundsException") X.2.2.2.2.1 [] ⟨0, 10, 13, 25⟩ [] (hTab.trans rfl) (fun _ hz => absurd hz List.not_mem_nil) rfl (by decide) (X.2.2.2.2.2.1 _ (mw 10 4 rfl rfl)) (va_Nw.use rfl (TX.2.2.2.1 _ (by decide))) h1 h2 h3 ?_
      refine lv_astore (lv' := [(4, .ref (q9)), (0, .ref (g.2.2 (0))), (1, .int (x1)), (2, .int (x2)), (3, .ref (g.2.2 (122)))]) X.1 X.2.1 (dk T_L_cell 9 rfl) hl (Nat.le_of_ble_eq_true rfl) rfl (fun ls hl => ?_)
      refine lv_iconst (v := 1) X.1 X.2.1 (dk T_L_cell 10 rfl) ic_1 ?_
      exact KR 1 τ _ _ _ _ _ _ (Option.some.inj h).symm (Nat.le_of_ble_eq_true rfl) (Nat.le_of_ble_eq_true rfl) Y (dk T_L_cell 11 rfl)
    replace h := ineg c5 h
    cases h
  · subst e2; replace h := ser h; try dsimp only at h
    refine lv_i2l X.1 X.2.1 (dk T_L_cell 6 rfl) rfl ?_
    obtain ⟨g6, h⟩ := gd h
    refine gls X Y (x := y3) rfl (inp g6) (dk T_L_cell 7 rfl) (fun H locs Y => ?_)
    refine lv_goto (tgt := 17) X.1 X.2.1 (dk T_L_cell 8 rfl) rfl ?_
    refine lv_iconst (v := 0) X.1 X.2.1 (dk T_L_cell 12 rfl) ic_0 ?_
    exact KR 0 (up t4 122 (0 : Int32).toNatClampNeg y3) _ _ _ _ _ _ (Option.some.inj h).symm (Nat.le_of_ble_eq_true rfl) (Nat.le_of_ble_eq_true rfl) Y (dk T_L_cell 13 rfl)
def f_L_cell (x1 : Int32) (x2 : Int32) (σ : St) : Option (Int32 × St) := f_L_cell_0 x1 x2 σ
set_option maxHeartbeats 4000000 in
set_option maxRecDepth 100000 in
theorem c_L_cell {l : Launch} {g : Geo} (x1 : Int32) (x2 : Int32) (σ : St) {w : Int32 × St} (h : f_L_cell x1 x2 σ = some w) : CtH l yL_cell cL_cell 5 (some .int) [(0, 10, 13, 25)] 9 155 2 12 g [.ref (g.2.2 (0)), .int (x1), .int (x2), .ref (g.2.2 (122))] σ w := enH .int (by decide) rfl (fun _ => rfl) (Nat.le_of_ble_eq_true rfl) (fun p e s m args below meth c Q X TX hst hTab Y ls hl KR => w_L_cell_0 X TX hst hTab x1 x2 σ KR Y hl h)
def I_L_shape : List (Nat × Instr × Nat) := [(0, .aload_n 3, 1), (1, .iconst 0, 1), (2, .aload_n 0, 1), (3, .iload_n 1, 1), (4, .iload_n 2, 1), (5, .invokevirtual 35, 3), (8, .i2l, 1), (9, .lastore, 1), (10, .goto 11, 3), (13, .astore 4, 2), (15, .iconst 1, 1), (16, .ireturn, 1), (17, .astore 4, 2), (19, .iconst 2, 1), (20, .ireturn, 1), (21, .iconst 0, 1), (22, .ireturn, 1)]
set_option maxRecDepth 100000 in
theorem T_L_shape : ∀ q ∈ I_L_shape, decode cL_shape q.1 = .ok (q.2.1, q.2.2) := by decide +kernel
def f_L_shape_0 (x1 : Int32) (x2 : Int32) (σ : St) : Option (Int32 × St) :=
  (f_X10_shape x1 x2 σ).bind fun q1 => Sum.elim (fun x => if x.1 = "java/lang/IndexOutOfBoundsException" then some (1, x.2) else if x.1 = "java/lang/IllegalArgumentException" then some (2, x.2) else none) (fun q1 => chk (inb 0 1) (some (0, up q1.2 122 (0 : Int32).toNatClampNeg q1.1))) q1
set_option maxHeartbeats 4000000 in
set_option maxRecDepth 100000 in
theorem w_L_shape_0 (X : Cx g RL cL_shape 5 (some .int) p s m args meth c) (TX : TXs g (GA g s.heap.size) s s.heap) (hst : l.stackTraces = false) (hTab : c.exceptionTable.toList = tableOf [(0, 10, 13, 25), (0, 10, 17, 13)]) (x1 : Int32) (x2 : Int32) (σ : St) {w : Int32 × St} (KR : ∀ (v : Int32) (τ : St) (H : Heap) (locs : List Loc) (ls : Array Slot) (pc k n : Nat), w = (v, τ) → k ≤ 2 → n ≤ 12 → Wd g s τ H locs → decode cL_shape pc = .ok (.ireturn, 1) → W p l e (rmT 8 133 2 12) s m args below meth c H locs k n Q (F0 m pc ls [.int v])) {H : Heap} {locs : List Loc} {ls : Array Slot} (Y : Wd g s σ H locs) (hl : lv_has ls 5 [(0, .ref (g.2.2 (0))), (1, .int (x1)), (2, .int (x2)), (3, .ref (g.2.2 (122)))]) (h : f_L_shape_0 x1 x2 σ = some w) : W p l e (rmT 8 133 2 12) s m args below meth c H locs 0 0 Q (F0 m 0 ls []) := by
  unfold f_L_shape_0 at h
  refine lv_aload_n X.1 X.2.1 (dk T_L_shape 0 rfl) rfl (lv_at hl 3 rfl) ?_
  refine lv_iconst (v := 0) X.1 X.2.1 (dk T_L_shape 1 rfl) ic_0 ?_
  refine lv_aload_n X.1 X.2.1 (dk T_L_shape 2 rfl) rfl (lv_at hl 0 rfl) ?_
  refine lv_iload_n X.1 X.2.1 (dk T_L_shape 3 rfl) rfl (lv_at hl 1 rfl) ?_
  refine lv_iload_n X.1 X.2.1 (dk T_L_shape 4 rfl) rfl (lv_at hl 2 rfl) ?_
  obtain ⟨q1, hq1, h⟩ := bs h
  refine gvT (rest := [.int (0), .ref (g.2.2 (122))]) X TX hst Y (c_X10_shape x1 x2 σ hq1) cb_L_35 rfl hl.1 rfl rfl (Nat.le_of_ble_eq_true rfl) ⟨(Nat.le_of_ble_eq_true rfl), (Nat.le_of_ble_eq_true rfl)⟩ ⟨(Nat.le_of_ble_eq_true rfl), (Nat.le_of_ble_eq_true rfl)⟩ (dk T_L_shape 5 rfl) (fun E τ ce q9 H locs e2 Y h1 h2 h3 => ?_) (fun y3 t4 H locs e2 Y => ?_)
  · subst e2; replace h := sel h
    by_cases c5 : E = "java/lang/IndexOutOfBoundsException"
    · replace h := ipos c5 h; subst c5
      refine vx_catch (own := RL) (name := "java/lang/IndexOutOfBoundsException") X.2.2.2.2.1 [] ⟨0, 10, 13, 25⟩ [⟨0, 10, 17, 13⟩] (hTab.trans rfl) (fun _ hz => absurd hz List.not_mem_nil) rfl (by decide) (X.2.2.2.2.2.1 _ (mw 10 4 rfl rfl)) (va_Nw.use rfl (TX.2.2.2.1 _ (by decide))) h1 h2 h3 ?_
      refine lv_astore (lv' := [(4, .ref (q9)), (0, .ref (g.2.2 (0))), (1, .int (x1)), (2, .int (x2)), (3, .ref (g.2.2 (122)))]) X.1 X.2.1 (dk T_L_shape 9 rfl) hl (Nat.le_of_ble_eq_true rfl) rfl (fun ls hl => ?_)
      refine lv_iconst (v := 1) X.1 X.2.1 (dk T_L_shape 10 rfl) ic_1 ?_
      exact KR 1 τ _ _ _ _ _ _ (Option.some.inj h).symm (Nat.le_of_ble_eq_true rfl) (Nat.le_of_ble_eq_true rfl) Y (dk T_L_shape 11 rfl)
    replace h := ineg c5 h
    by_cases c6 : E = "java/lang/IllegalArgumentException"
    · replace h := ipos c6 h; subst c6
      refine vx_catch (own := RL) (name := "java/lang/IllegalArgumentException") X.2.2.2.2.1 [⟨0, 10, 13, 25⟩] ⟨0, 10, 17, 13⟩ [] (hTab.trans rfl) (List.forall_mem_cons.mpr ⟨Or.inr ⟨by decide, "java/lang/IndexOutOfBoundsException", X.2.2.2.2.2.1 _ (mw 10 4 rfl rfl), TX.2.2.2.2.2 ("java/lang/IllegalArgumentException", "java/lang/IndexOutOfBoundsException") (by decide)⟩, fun _ hz => absurd hz List.not_mem_nil⟩) rfl (by decide) (X.2.2.2.2.2.1 _ (mw 5 4 rfl rfl)) (va_Nw.use rfl (TX.2.2.2.1 _ (by decide))) h1 h2 h3 ?_
      refine lv_astore (lv' := [(4, .ref (q9)), (0, .ref (g.2.2 (0))), (1, .int (x1)), (2, .int (x2)), (3, .ref (g.2.2 (122)))]) X.1 X.2.1 (dk T_L_shape 12 rfl) hl (Nat.le_of_ble_eq_true rfl) rfl (fun ls hl => ?_)
      refine lv_iconst (v := 2) X.1 X.2.1 (dk T_L_shape 13 rfl) ic_2 ?_
      exact KR 2 τ _ _ _ _ _ _ (Option.some.inj h).symm (Nat.le_of_ble_eq_true rfl) (Nat.le_of_ble_eq_true rfl) Y (dk T_L_shape 14 rfl)
    replace h := ineg c6 h
    cases h
  · subst e2; replace h := ser h; try dsimp only at h
    refine lv_i2l X.1 X.2.1 (dk T_L_shape 6 rfl) rfl ?_
    obtain ⟨g7, h⟩ := gd h
    refine gls X Y (x := y3) rfl (inp g7) (dk T_L_shape 7 rfl) (fun H locs Y => ?_)
    refine lv_goto (tgt := 21) X.1 X.2.1 (dk T_L_shape 8 rfl) rfl ?_
    refine lv_iconst (v := 0) X.1 X.2.1 (dk T_L_shape 15 rfl) ic_0 ?_
    exact KR 0 (up t4 122 (0 : Int32).toNatClampNeg y3) _ _ _ _ _ _ (Option.some.inj h).symm (Nat.le_of_ble_eq_true rfl) (Nat.le_of_ble_eq_true rfl) Y (dk T_L_shape 16 rfl)
def f_L_shape (x1 : Int32) (x2 : Int32) (σ : St) : Option (Int32 × St) := f_L_shape_0 x1 x2 σ
set_option maxHeartbeats 4000000 in
set_option maxRecDepth 100000 in
theorem c_L_shape {l : Launch} {g : Geo} (x1 : Int32) (x2 : Int32) (σ : St) {w : Int32 × St} (h : f_L_shape x1 x2 σ = some w) : CtH l yL_shape cL_shape 5 (some .int) [(0, 10, 13, 25), (0, 10, 17, 13)] 8 133 2 12 g [.ref (g.2.2 (0)), .int (x1), .int (x2), .ref (g.2.2 (122))] σ w := enH .int (by decide) rfl (fun _ => rfl) (Nat.le_of_ble_eq_true rfl) (fun p e s m args below meth c Q X TX hst hTab Y ls hl KR => w_L_shape_0 X TX hst hTab x1 x2 σ KR Y hl h)
def I_L_turned : List (Nat × Instr × Nat) := [(0, .aload_n 3, 1), (1, .iconst 0, 1), (2, .aload_n 0, 1), (3, .iload_n 1, 1), (4, .iload_n 2, 1), (5, .invokevirtual 38, 3), (8, .i2l, 1), (9, .lastore, 1), (10, .goto 11, 3), (13, .astore 4, 2), (15, .iconst 1, 1), (16, .ireturn, 1), (17, .astore 4, 2), (19, .iconst 2, 1), (20, .ireturn, 1), (21, .iconst 0, 1), (22, .ireturn, 1)]
set_option maxRecDepth 100000 in
theorem T_L_turned : ∀ q ∈ I_L_turned, decode cL_turned q.1 = .ok (q.2.1, q.2.2) := by decide +kernel
def f_L_turned_0 (x1 : Int32) (x2 : Int32) (σ : St) : Option (Int32 × St) :=
  (f_X10_turned x1 x2 σ).bind fun q1 => Sum.elim (fun x => if x.1 = "java/lang/IndexOutOfBoundsException" then some (1, x.2) else if x.1 = "java/lang/IllegalArgumentException" then some (2, x.2) else none) (fun q1 => chk (inb 0 1) (some (0, up q1.2 122 (0 : Int32).toNatClampNeg q1.1))) q1
set_option maxHeartbeats 4000000 in
set_option maxRecDepth 100000 in
theorem w_L_turned_0 (X : Cx g RL cL_turned 5 (some .int) p s m args meth c) (TX : TXs g (GA g s.heap.size) s s.heap) (hst : l.stackTraces = false) (hTab : c.exceptionTable.toList = tableOf [(0, 10, 13, 25), (0, 10, 17, 13)]) (x1 : Int32) (x2 : Int32) (σ : St) {w : Int32 × St} (KR : ∀ (v : Int32) (τ : St) (H : Heap) (locs : List Loc) (ls : Array Slot) (pc k n : Nat), w = (v, τ) → k ≤ 2 → n ≤ 12 → Wd g s τ H locs → decode cL_turned pc = .ok (.ireturn, 1) → W p l e (rmT 8 133 2 12) s m args below meth c H locs k n Q (F0 m pc ls [.int v])) {H : Heap} {locs : List Loc} {ls : Array Slot} (Y : Wd g s σ H locs) (hl : lv_has ls 5 [(0, .ref (g.2.2 (0))), (1, .int (x1)), (2, .int (x2)), (3, .ref (g.2.2 (122)))]) (h : f_L_turned_0 x1 x2 σ = some w) : W p l e (rmT 8 133 2 12) s m args below meth c H locs 0 0 Q (F0 m 0 ls []) := by
  unfold f_L_turned_0 at h
  refine lv_aload_n X.1 X.2.1 (dk T_L_turned 0 rfl) rfl (lv_at hl 3 rfl) ?_
  refine lv_iconst (v := 0) X.1 X.2.1 (dk T_L_turned 1 rfl) ic_0 ?_
  refine lv_aload_n X.1 X.2.1 (dk T_L_turned 2 rfl) rfl (lv_at hl 0 rfl) ?_
  refine lv_iload_n X.1 X.2.1 (dk T_L_turned 3 rfl) rfl (lv_at hl 1 rfl) ?_
  refine lv_iload_n X.1 X.2.1 (dk T_L_turned 4 rfl) rfl (lv_at hl 2 rfl) ?_
  obtain ⟨q1, hq1, h⟩ := bs h
  refine gvT (rest := [.int (0), .ref (g.2.2 (122))]) X TX hst Y (c_X10_turned x1 x2 σ hq1) cb_L_38 rfl hl.1 rfl rfl (Nat.le_of_ble_eq_true rfl) ⟨(Nat.le_of_ble_eq_true rfl), (Nat.le_of_ble_eq_true rfl)⟩ ⟨(Nat.le_of_ble_eq_true rfl), (Nat.le_of_ble_eq_true rfl)⟩ (dk T_L_turned 5 rfl) (fun E τ ce q9 H locs e2 Y h1 h2 h3 => ?_) (fun y3 t4 H locs e2 Y => ?_)
  · subst e2; replace h := sel h
    by_cases c5 : E = "java/lang/IndexOutOfBoundsException"
    · replace h := ipos c5 h; subst c5
      refine vx_catch (own := RL) (name := "java/lang/IndexOutOfBoundsException") X.2.2.2.2.1 [] ⟨0, 10, 13, 25⟩ [⟨0, 10, 17, 13⟩] (hTab.trans rfl) (fun _ hz => absurd hz List.not_mem_nil) rfl (by decide) (X.2.2.2.2.2.1 _ (mw 10 4 rfl rfl)) (va_Nw.use rfl (TX.2.2.2.1 _ (by decide))) h1 h2 h3 ?_
      refine lv_astore (lv' := [(4, .ref (q9)), (0, .ref (g.2.2 (0))), (1, .int (x1)), (2, .int (x2)), (3, .ref (g.2.2 (122)))]) X.1 X.2.1 (dk T_L_turned 9 rfl) hl (Nat.le_of_ble_eq_true rfl) rfl (fun ls hl => ?_)
      refine lv_iconst (v := 1) X.1 X.2.1 (dk T_L_turned 10 rfl) ic_1 ?_
      exact KR 1 τ _ _ _ _ _ _ (Option.some.inj h).symm (Nat.le_of_ble_eq_true rfl) (Nat.le_of_ble_eq_true rfl) Y (dk T_L_turned 11 rfl)
    replace h := ineg c5 h
    by_cases c6 : E = "java/lang/IllegalArgumentException"
    · replace h := ipos c6 h; subst c6
      refine vx_catch (own := RL) (name := "java/lang/IllegalArgumentException") X.2.2.2.2.1 [⟨0, 10, 13, 25⟩] ⟨0, 10, 17, 13⟩ [] (hTab.trans rfl) (List.forall_mem_cons.mpr ⟨Or.inr ⟨by decide, "java/lang/IndexOutOfBoundsException", X.2.2.2.2.2.1 _ (mw 10 4 rfl rfl), TX.2.2.2.2.2 ("java/lang/IllegalArgumentException", "java/lang/IndexOutOfBoundsException") (by decide)⟩, fun _ hz => absurd hz List.not_mem_nil⟩) rfl (by decide) (X.2.2.2.2.2.1 _ (mw 5 4 rfl rfl)) (va_Nw.use rfl (TX.2.2.2.1 _ (by decide))) h1 h2 h3 ?_
      refine lv_astore (lv' := [(4, .ref (q9)), (0, .ref (g.2.2 (0))), (1, .int (x1)), (2, .int (x2)), (3, .ref (g.2.2 (122)))]) X.1 X.2.1 (dk T_L_turned 12 rfl) hl (Nat.le_of_ble_eq_true rfl) rfl (fun ls hl => ?_)
      refine lv_iconst (v := 2) X.1 X.2.1 (dk T_L_turned 13 rfl) ic_2 ?_
      exact KR 2 τ _ _ _ _ _ _ (Option.some.inj h).symm (Nat.le_of_ble_eq_true rfl) (Nat.le_of_ble_eq_true rfl) Y (dk T_L_turned 14 rfl)
    replace h := ineg c6 h
    cases h
  · subst e2; replace h := ser h; try dsimp only at h
    refine lv_i2l X.1 X.2.1 (dk T_L_turned 6 rfl) rfl ?_
    obtain ⟨g7, h⟩ := gd h
    refine gls X Y (x := y3) rfl (inp g7) (dk T_L_turned 7 rfl) (fun H locs Y => ?_)
    refine lv_goto (tgt := 21) X.1 X.2.1 (dk T_L_turned 8 rfl) rfl ?_
    refine lv_iconst (v := 0) X.1 X.2.1 (dk T_L_turned 15 rfl) ic_0 ?_
    exact KR 0 (up t4 122 (0 : Int32).toNatClampNeg y3) _ _ _ _ _ _ (Option.some.inj h).symm (Nat.le_of_ble_eq_true rfl) (Nat.le_of_ble_eq_true rfl) Y (dk T_L_turned 16 rfl)
def f_L_turned (x1 : Int32) (x2 : Int32) (σ : St) : Option (Int32 × St) := f_L_turned_0 x1 x2 σ
set_option maxHeartbeats 4000000 in
set_option maxRecDepth 100000 in
theorem c_L_turned {l : Launch} {g : Geo} (x1 : Int32) (x2 : Int32) (σ : St) {w : Int32 × St} (h : f_L_turned x1 x2 σ = some w) : CtH l yL_turned cL_turned 5 (some .int) [(0, 10, 13, 25), (0, 10, 17, 13)] 8 133 2 12 g [.ref (g.2.2 (0)), .int (x1), .int (x2), .ref (g.2.2 (122))] σ w := enH .int (by decide) rfl (fun _ => rfl) (Nat.le_of_ble_eq_true rfl) (fun p e s m args below meth c Q X TX hst hTab Y ls hl KR => w_L_turned_0 X TX hst hTab x1 x2 σ KR Y hl h)
def I_L_place : List (Nat × Instr × Nat) := [(0, .aload 6, 2), (2, .iconst 0, 1), (3, .aload_n 0, 1), (4, .iload_n 1, 1), (5, .iload_n 2, 1), (6, .iload_n 3, 1), (7, .iload 4, 2), (9, .iload 5, 2), (11, .invokevirtual 41, 3), (14, .i2l, 1), (15, .lastore, 1), (16, .goto 15, 3), (19, .astore 7, 2), (21, .iconst 1, 1), (22, .ireturn, 1), (23, .astore 7, 2), (25, .iconst 2, 1), (26, .ireturn, 1), (27, .astore 7, 2), (29, .iconst 3, 1), (30, .ireturn, 1), (31, .iconst 0, 1), (32, .ireturn, 1)]
set_option maxRecDepth 100000 in
theorem T_L_place : ∀ q ∈ I_L_place, decode cL_place q.1 = .ok (q.2.1, q.2.2) := by decide +kernel
def f_L_place_0 (x1 : Int32) (x2 : Int32) (x3 : Int32) (x4 : Int32) (x5 : Int32) (σ : St) : Option (Int32 × St) :=
  (f_X10_place x1 x2 x3 x4 x5 σ).bind fun q1 => Sum.elim (fun x => if x.1 = "java/lang/IndexOutOfBoundsException" then some (1, x.2) else if x.1 = "java/lang/IllegalArgumentException" then some (2, x.2) else if x.1 = "java/lang/UnsupportedOperationException" then some (3, x.2) else none) (fun q1 => chk (inb 0 1) (some (0, up q1.2 122 (0 : Int32).toNatClampNeg q1.1))) q1
set_option maxHeartbeats 4000000 in
set_option maxRecDepth 100000 in
theorem w_L_place_0 (X : Cx g RL cL_place 8 (some .int) p s m args meth c) (TX : TXs g (GA g s.heap.size) s s.heap) (hst : l.stackTraces = false) (hTab : c.exceptionTable.toList = tableOf [(0, 16, 19, 25), (0, 16, 23, 13), (0, 16, 27, 27)]) (x1 : Int32) (x2 : Int32) (x3 : Int32) (x4 : Int32) (x5 : Int32) (σ : St) {w : Int32 × St} (KR : ∀ (v : Int32) (τ : St) (H : Heap) (locs : List Loc) (ls : Array Slot) (pc k n : Nat), w = (v, τ) → k ≤ 4 → n ≤ 24 → Wd g s τ H locs → decode cL_place pc = .ok (.ireturn, 1) → W p l e (rmT 8 155 4 24) s m args below meth c H locs k n Q (F0 m pc ls [.int v])) {H : Heap} {locs : List Loc} {ls : Array Slot} (Y : Wd g s σ H locs) (hl : lv_has ls 8 [(0, .ref (g.2.2 (0))), (1, .int (x1)), (2, .int (x2)), (3, .int (x3)), (4, .int (x4)), (5, .int (x5)), (6, .ref (g.2.2 (122)))]) (h : f_L_place_0 x1 x2 x3 x4 x5 σ = some w) : W p l e (rmT 8 155 4 24) s m args below meth c H locs 0 0 Q (F0 m 0 ls []) := by
  unfold f_L_place_0 at h
  refine lv_aload X.1 X.2.1 (dk T_L_place 0 rfl) (lv_at hl 6 rfl) ?_
  refine lv_iconst (v := 0) X.1 X.2.1 (dk T_L_place 1 rfl) ic_0 ?_
  refine lv_aload_n X.1 X.2.1 (dk T_L_place 2 rfl) rfl (lv_at hl 0 rfl) ?_
  refine lv_iload_n X.1 X.2.1 (dk T_L_place 3 rfl) rfl (lv_at hl 1 rfl) ?_
  refine lv_iload_n X.1 X.2.1 (dk T_L_place 4 rfl) rfl (lv_at hl 2 rfl) ?_
  refine lv_iload_n X.1 X.2.1 (dk T_L_place 5 rfl) rfl (lv_at hl 3 rfl) ?_
  refine lv_iload X.1 X.2.1 (dk T_L_place 6 rfl) (lv_at hl 4 rfl) ?_
  refine lv_iload X.1 X.2.1 (dk T_L_place 7 rfl) (lv_at hl 5 rfl) ?_
  obtain ⟨q1, hq1, h⟩ := bs h
  refine gvT (rest := [.int (0), .ref (g.2.2 (122))]) X TX hst Y (c_X10_place x1 x2 x3 x4 x5 σ hq1) cb_L_41 rfl hl.1 rfl rfl (Nat.le_of_ble_eq_true rfl) ⟨(Nat.le_of_ble_eq_true rfl), (Nat.le_of_ble_eq_true rfl)⟩ ⟨(Nat.le_of_ble_eq_true rfl), (Nat.le_of_ble_eq_true rfl)⟩ (dk T_L_place 8 rfl) (fun E τ ce q9 H locs e2 Y h1 h2 h3 => ?_) (fun y3 t4 H locs e2 Y => ?_)
  · subst e2; replace h := sel h
    by_cases c5 : E = "java/lang/IndexOutOfBoundsException"
    · replace h := ipos c5 h; subst c5
      refine vx_catch (own := RL) (name := "java/lang/IndexOutOfBoundsException") X.2.2.2.2.1 [] ⟨0, 16, 19, 25⟩ [⟨0, 16, 23, 13⟩, ⟨0, 16, 27, 27⟩] (hTab.trans rfl) (fun _ hz => absurd hz List.not_mem_nil) rfl (by decide) (X.2.2.2.2.2.1 _ (mw 10 4 rfl rfl)) (va_Nw.use rfl (TX.2.2.2.1 _ (by decide))) h1 h2 h3 ?_
      refine lv_astore (lv' := [(7, .ref (q9)), (0, .ref (g.2.2 (0))), (1, .int (x1)), (2, .int (x2)), (3, .int (x3)), (4, .int (x4)), (5, .int (x5)), (6, .ref (g.2.2 (122)))]) X.1 X.2.1 (dk T_L_place 12 rfl) hl (Nat.le_of_ble_eq_true rfl) rfl (fun ls hl => ?_)
      refine lv_iconst (v := 1) X.1 X.2.1 (dk T_L_place 13 rfl) ic_1 ?_
      exact KR 1 τ _ _ _ _ _ _ (Option.some.inj h).symm (Nat.le_of_ble_eq_true rfl) (Nat.le_of_ble_eq_true rfl) Y (dk T_L_place 14 rfl)
    replace h := ineg c5 h
    by_cases c6 : E = "java/lang/IllegalArgumentException"
    · replace h := ipos c6 h; subst c6
      refine vx_catch (own := RL) (name := "java/lang/IllegalArgumentException") X.2.2.2.2.1 [⟨0, 16, 19, 25⟩] ⟨0, 16, 23, 13⟩ [⟨0, 16, 27, 27⟩] (hTab.trans rfl) (List.forall_mem_cons.mpr ⟨Or.inr ⟨by decide, "java/lang/IndexOutOfBoundsException", X.2.2.2.2.2.1 _ (mw 10 4 rfl rfl), TX.2.2.2.2.2 ("java/lang/IllegalArgumentException", "java/lang/IndexOutOfBoundsException") (by decide)⟩, fun _ hz => absurd hz List.not_mem_nil⟩) rfl (by decide) (X.2.2.2.2.2.1 _ (mw 5 4 rfl rfl)) (va_Nw.use rfl (TX.2.2.2.1 _ (by decide))) h1 h2 h3 ?_
      refine lv_astore (lv' := [(7, .ref (q9)), (0, .ref (g.2.2 (0))), (1, .int (x1)), (2, .int (x2)), (3, .int (x3)), (4, .int (x4)), (5, .int (x5)), (6, .ref (g.2.2 (122)))]) X.1 X.2.1 (dk T_L_place 15 rfl) hl (Nat.le_of_ble_eq_true rfl) rfl (fun ls hl => ?_)
      refine lv_iconst (v := 2) X.1 X.2.1 (dk T_L_place 16 rfl) ic_2 ?_
      exact KR 2 τ _ _ _ _ _ _ (Option.some.inj h).symm (Nat.le_of_ble_eq_true rfl) (Nat.le_of_ble_eq_true rfl) Y (dk T_L_place 17 rfl)
    replace h := ineg c6 h
    by_cases c7 : E = "java/lang/UnsupportedOperationException"
    · replace h := ipos c7 h; subst c7
      refine vx_catch (own := RL) (name := "java/lang/UnsupportedOperationException") X.2.2.2.2.1 [⟨0, 16, 19, 25⟩, ⟨0, 16, 23, 13⟩] ⟨0, 16, 27, 27⟩ [] (hTab.trans rfl) (List.forall_mem_cons.mpr ⟨Or.inr ⟨by decide, "java/lang/IndexOutOfBoundsException", X.2.2.2.2.2.1 _ (mw 10 4 rfl rfl), TX.2.2.2.2.2 ("java/lang/UnsupportedOperationException", "java/lang/IndexOutOfBoundsException") (by decide)⟩, List.forall_mem_cons.mpr ⟨Or.inr ⟨by decide, "java/lang/IllegalArgumentException", X.2.2.2.2.2.1 _ (mw 5 4 rfl rfl), TX.2.2.2.2.2 ("java/lang/UnsupportedOperationException", "java/lang/IllegalArgumentException") (by decide)⟩, fun _ hz => absurd hz List.not_mem_nil⟩⟩) rfl (by decide) (X.2.2.2.2.2.1 _ (mw 10 5 rfl rfl)) (va_Nw.use rfl (TX.2.2.2.1 _ (by decide))) h1 h2 h3 ?_
      refine lv_astore (lv' := [(7, .ref (q9)), (0, .ref (g.2.2 (0))), (1, .int (x1)), (2, .int (x2)), (3, .int (x3)), (4, .int (x4)), (5, .int (x5)), (6, .ref (g.2.2 (122)))]) X.1 X.2.1 (dk T_L_place 18 rfl) hl (Nat.le_of_ble_eq_true rfl) rfl (fun ls hl => ?_)
      refine lv_iconst (v := 3) X.1 X.2.1 (dk T_L_place 19 rfl) ic_3 ?_
      exact KR 3 τ _ _ _ _ _ _ (Option.some.inj h).symm (Nat.le_of_ble_eq_true rfl) (Nat.le_of_ble_eq_true rfl) Y (dk T_L_place 20 rfl)
    replace h := ineg c7 h
    cases h
  · subst e2; replace h := ser h; try dsimp only at h
    refine lv_i2l X.1 X.2.1 (dk T_L_place 9 rfl) rfl ?_
    obtain ⟨g8, h⟩ := gd h
    refine gls X Y (x := y3) rfl (inp g8) (dk T_L_place 10 rfl) (fun H locs Y => ?_)
    refine lv_goto (tgt := 31) X.1 X.2.1 (dk T_L_place 11 rfl) rfl ?_
    refine lv_iconst (v := 0) X.1 X.2.1 (dk T_L_place 21 rfl) ic_0 ?_
    exact KR 0 (up t4 122 (0 : Int32).toNatClampNeg y3) _ _ _ _ _ _ (Option.some.inj h).symm (Nat.le_of_ble_eq_true rfl) (Nat.le_of_ble_eq_true rfl) Y (dk T_L_place 22 rfl)
def f_L_place (x1 : Int32) (x2 : Int32) (x3 : Int32) (x4 : Int32) (x5 : Int32) (σ : St) : Option (Int32 × St) := f_L_place_0 x1 x2 x3 x4 x5 σ
set_option maxHeartbeats 4000000 in
set_option maxRecDepth 100000 in
theorem c_L_place {l : Launch} {g : Geo} (x1 : Int32) (x2 : Int32) (x3 : Int32) (x4 : Int32) (x5 : Int32) (σ : St) {w : Int32 × St} (h : f_L_place x1 x2 x3 x4 x5 σ = some w) : CtH l yL_place cL_place 8 (some .int) [(0, 16, 19, 25), (0, 16, 23, 13), (0, 16, 27, 27)] 8 155 4 24 g [.ref (g.2.2 (0)), .int (x1), .int (x2), .int (x3), .int (x4), .int (x5), .ref (g.2.2 (122))] σ w := enH .int (by decide) rfl (fun _ => rfl) (Nat.le_of_ble_eq_true rfl) (fun p e s m args below meth c Q X TX hst hTab Y ls hl KR => w_L_place_0 X TX hst hTab x1 x2 x3 x4 x5 σ KR Y hl h)
def I_L_take : List (Nat × Instr × Nat) := [(0, .aload_n 2, 1), (1, .iconst 0, 1), (2, .aload_n 0, 1), (3, .iload_n 1, 1), (4, .invokevirtual 44, 3), (7, .i2l, 1), (8, .lastore, 1), (9, .goto 6, 3), (12, .astore_n 3, 1), (13, .iconst 1, 1), (14, .ireturn, 1), (15, .iconst 0, 1), (16, .ireturn, 1)]
set_option maxRecDepth 100000 in
theorem T_L_take : ∀ q ∈ I_L_take, decode cL_take q.1 = .ok (q.2.1, q.2.2) := by decide +kernel
def f_L_take_0 (x1 : Int32) (σ : St) : Option (Int32 × St) :=
  (f_X10_take x1 σ).bind fun q1 => Sum.elim (fun x => if x.1 = "java/lang/IndexOutOfBoundsException" then some (1, x.2) else none) (fun q1 => chk (inb 0 1) (some (0, up q1.2 122 (0 : Int32).toNatClampNeg q1.1))) q1
set_option maxHeartbeats 4000000 in
set_option maxRecDepth 100000 in
theorem w_L_take_0 (X : Cx g RL cL_take 4 (some .int) p s m args meth c) (TX : TXs g (GA g s.heap.size) s s.heap) (hst : l.stackTraces = false) (hTab : c.exceptionTable.toList = tableOf [(0, 9, 12, 25)]) (x1 : Int32) (σ : St) {w : Int32 × St} (KR : ∀ (v : Int32) (τ : St) (H : Heap) (locs : List Loc) (ls : Array Slot) (pc k n : Nat), w = (v, τ) → k ≤ 1 → n ≤ 6 → Wd g s τ H locs → decode cL_take pc = .ok (.ireturn, 1) → W p l e (rmT 8 132 1 6) s m args below meth c H locs k n Q (F0 m pc ls [.int v])) {H : Heap} {locs : List Loc} {ls : Array Slot} (Y : Wd g s σ H locs) (hl : lv_has ls 4 [(0, .ref (g.2.2 (0))), (1, .int (x1)), (2, .ref (g.2.2 (122)))]) (h : f_L_take_0 x1 σ = some w) : W p l e (rmT 8 132 1 6) s m args below meth c H locs 0 0 Q (F0 m 0 ls []) := by
  unfold f_L_take_0 at h
  refine lv_aload_n X.1 X.2.1 (dk T_L_take 0 rfl) rfl (lv_at hl 2 rfl) ?_
  refine lv_iconst (v := 0) X.1 X.2.1 (dk T_L_take 1 rfl) ic_0 ?_
  refine lv_aload_n X.1 X.2.1 (dk T_L_take 2 rfl) rfl (lv_at hl 0 rfl) ?_
  refine lv_iload_n X.1 X.2.1 (dk T_L_take 3 rfl) rfl (lv_at hl 1 rfl) ?_
  obtain ⟨q1, hq1, h⟩ := bs h
  refine gvT (rest := [.int (0), .ref (g.2.2 (122))]) X TX hst Y (c_X10_take x1 σ hq1) cb_L_44 rfl hl.1 rfl rfl (Nat.le_of_ble_eq_true rfl) ⟨(Nat.le_of_ble_eq_true rfl), (Nat.le_of_ble_eq_true rfl)⟩ ⟨(Nat.le_of_ble_eq_true rfl), (Nat.le_of_ble_eq_true rfl)⟩ (dk T_L_take 4 rfl) (fun E τ ce q9 H locs e2 Y h1 h2 h3 => ?_) (fun y3 t4 H locs e2 Y => ?_)
  · subst e2; replace h := sel h
    by_cases c5 : E = "java/lang/IndexOutOfBoundsException"
    · replace h := ipos c5 h; subst c5
      refine vx_catch (own := RL) (name := "java/lang/IndexOutOfBoundsException") X.2.2.2.2.1 [] ⟨0, 9, 12, 25⟩ [] (hTab.trans rfl) (fun _ hz => absurd hz List.not_mem_nil) rfl (by decide) (X.2.2.2.2.2.1 _ (mw 10 4 rfl rfl)) (va_Nw.use rfl (TX.2.2.2.1 _ (by decide))) h1 h2 h3 ?_
      refine lv_astore_n (lv' := [(3, .ref (q9)), (0, .ref (g.2.2 (0))), (1, .int (x1)), (2, .ref (g.2.2 (122)))]) X.1 X.2.1 (dk T_L_take 8 rfl) rfl hl (Nat.le_of_ble_eq_true rfl) rfl (fun ls hl => ?_)
      refine lv_iconst (v := 1) X.1 X.2.1 (dk T_L_take 9 rfl) ic_1 ?_
      exact KR 1 τ _ _ _ _ _ _ (Option.some.inj h).symm (Nat.le_of_ble_eq_true rfl) (Nat.le_of_ble_eq_true rfl) Y (dk T_L_take 10 rfl)
    replace h := ineg c5 h
    cases h
  · subst e2; replace h := ser h; try dsimp only at h
    refine lv_i2l X.1 X.2.1 (dk T_L_take 5 rfl) rfl ?_
    obtain ⟨g6, h⟩ := gd h
    refine gls X Y (x := y3) rfl (inp g6) (dk T_L_take 6 rfl) (fun H locs Y => ?_)
    refine lv_goto (tgt := 15) X.1 X.2.1 (dk T_L_take 7 rfl) rfl ?_
    refine lv_iconst (v := 0) X.1 X.2.1 (dk T_L_take 11 rfl) ic_0 ?_
    exact KR 0 (up t4 122 (0 : Int32).toNatClampNeg y3) _ _ _ _ _ _ (Option.some.inj h).symm (Nat.le_of_ble_eq_true rfl) (Nat.le_of_ble_eq_true rfl) Y (dk T_L_take 12 rfl)
def f_L_take (x1 : Int32) (σ : St) : Option (Int32 × St) := f_L_take_0 x1 σ
set_option maxHeartbeats 4000000 in
set_option maxRecDepth 100000 in
theorem c_L_take {l : Launch} {g : Geo} (x1 : Int32) (σ : St) {w : Int32 × St} (h : f_L_take x1 σ = some w) : CtH l yL_take cL_take 4 (some .int) [(0, 9, 12, 25)] 8 132 1 6 g [.ref (g.2.2 (0)), .int (x1), .ref (g.2.2 (122))] σ w := enH .int (by decide) rfl (fun _ => rfl) (Nat.le_of_ble_eq_true rfl) (fun p e s m args below meth c Q X TX hst hTab Y ls hl KR => w_L_take_0 X TX hst hTab x1 σ KR Y hl h)
def I_L_part : List (Nat × Instr × Nat) := [(0, .aload_n 3, 1), (1, .iconst 0, 1), (2, .aload_n 0, 1), (3, .iload_n 1, 1), (4, .iload_n 2, 1), (5, .invokevirtual 48, 3), (8, .i2l, 1), (9, .lastore, 1), (10, .goto 11, 3), (13, .astore 4, 2), (15, .iconst 1, 1), (16, .ireturn, 1), (17, .astore 4, 2), (19, .iconst 2, 1), (20, .ireturn, 1), (21, .iconst 0, 1), (22, .ireturn, 1)]
set_option maxRecDepth 100000 in
theorem T_L_part : ∀ q ∈ I_L_part, decode cL_part q.1 = .ok (q.2.1, q.2.2) := by decide +kernel
def f_L_part_0 (x1 : Int32) (x2 : Int32) (σ : St) : Option (Int32 × St) :=
  (f_X10_part x1 x2 σ).bind fun q1 => Sum.elim (fun x => if x.1 = "java/lang/IndexOutOfBoundsException" then some (1, x.2) else if x.1 = "java/lang/IllegalArgumentException" then some (2, x.2) else none) (fun q1 => chk (inb 0 1) (some (0, up q1.2 122 (0 : Int32).toNatClampNeg q1.1))) q1
set_option maxHeartbeats 4000000 in
set_option maxRecDepth 100000 in
theorem w_L_part_0 (X : Cx g RL cL_part 5 (some .int) p s m args meth c) (TX : TXs g (GA g s.heap.size) s s.heap) (hst : l.stackTraces = false) (hTab : c.exceptionTable.toList = tableOf [(0, 10, 13, 25), (0, 10, 17, 13)]) (x1 : Int32) (x2 : Int32) (σ : St) {w : Int32 × St} (KR : ∀ (v : Int32) (τ : St) (H : Heap) (locs : List Loc) (ls : Array Slot) (pc k n : Nat), w = (v, τ) → k ≤ 2 → n ≤ 12 → Wd g s τ H locs → decode cL_part pc = .ok (.ireturn, 1) → W p l e (rmT 8 141 2 12) s m args below meth c H locs k n Q (F0 m pc ls [.int v])) {H : Heap} {locs : List Loc} {ls : Array Slot} (Y : Wd g s σ H locs) (hl : lv_has ls 5 [(0, .ref (g.2.2 (0))), (1, .int (x1)), (2, .int (x2)), (3, .ref (g.2.2 (122)))]) (h : f_L_part_0 x1 x2 σ = some w) : W p l e (rmT 8 141 2 12) s m args below meth c H locs 0 0 Q (F0 m 0 ls []) := by
  unfold f_L_part_0 at h
  refine lv_aload_n X.1 X.2.1 (dk T_L_part 0 rfl) rfl (lv_at hl 3 rfl) ?_
  refine lv_iconst (v := 0) X.1 X.2.1 (dk T_L_part 1 rfl) ic_0 ?_
  refine lv_aload_n X.1 X.2.1 (dk T_L_part 2 rfl) rfl (lv_at hl 0 rfl) ?_
  refine lv_iload_n X.1 X.2.1 (dk T_L_part 3 rfl) rfl (lv_at hl 1 rfl) ?_
  refine lv_iload_n X.1 X.2.1 (dk T_L_part 4 rfl) rfl (lv_at hl 2 rfl) ?_
  obtain ⟨q1, hq1, h⟩ := bs h
  refine gvT (rest := [.int (0), .ref (g.2.2 (122))]) X TX hst Y (c_X10_part x1 x2 σ hq1) cb_L_48 rfl hl.1 rfl rfl (Nat.le_of_ble_eq_true rfl) ⟨(Nat.le_of_ble_eq_true rfl), (Nat.le_of_ble_eq_true rfl)⟩ ⟨(Nat.le_of_ble_eq_true rfl), (Nat.le_of_ble_eq_true rfl)⟩ (dk T_L_part 5 rfl) (fun E τ ce q9 H locs e2 Y h1 h2 h3 => ?_) (fun y3 t4 H locs e2 Y => ?_)
  · subst e2; replace h := sel h
    by_cases c5 : E = "java/lang/IndexOutOfBoundsException"
    · replace h := ipos c5 h; subst c5
      refine vx_catch (own := RL) (name := "java/lang/IndexOutOfBoundsException") X.2.2.2.2.1 [] ⟨0, 10, 13, 25⟩ [⟨0, 10, 17, 13⟩] (hTab.trans rfl) (fun _ hz => absurd hz List.not_mem_nil) rfl (by decide) (X.2.2.2.2.2.1 _ (mw 10 4 rfl rfl)) (va_Nw.use rfl (TX.2.2.2.1 _ (by decide))) h1 h2 h3 ?_
      refine lv_astore (lv' := [(4, .ref (q9)), (0, .ref (g.2.2 (0))), (1, .int (x1)), (2, .int (x2)), (3, .ref (g.2.2 (122)))]) X.1 X.2.1 (dk T_L_part 9 rfl) hl (Nat.le_of_ble_eq_true rfl) rfl (fun ls hl => ?_)
      refine lv_iconst (v := 1) X.1 X.2.1 (dk T_L_part 10 rfl) ic_1 ?_
      exact KR 1 τ _ _ _ _ _ _ (Option.some.inj h).symm (Nat.le_of_ble_eq_true rfl) (Nat.le_of_ble_eq_true rfl) Y (dk T_L_part 11 rfl)
    replace h := ineg c5 h
    by_cases c6 : E = "java/lang/IllegalArgumentException"
    · replace h := ipos c6 h; subst c6
      refine vx_catch (own := RL) (name := "java/lang/IllegalArgumentException") X.2.2.2.2.1 [⟨0, 10, 13, 25⟩] ⟨0, 10, 17, 13⟩ [] (hTab.trans rfl) (List.forall_mem_cons.mpr ⟨Or.inr ⟨by decide, "java/lang/IndexOutOfBoundsException", X.2.2.2.2.2.1 _ (mw 10 4 rfl rfl), TX.2.2.2.2.2 ("java/lang/IllegalArgumentException", "java/lang/IndexOutOfBoundsException") (by decide)⟩, fun _ hz => absurd hz List.not_mem_nil⟩) rfl (by decide) (X.2.2.2.2.2.1 _ (mw 5 4 rfl rfl)) (va_Nw.use rfl (TX.2.2.2.1 _ (by decide))) h1 h2 h3 ?_
      refine lv_astore (lv' := [(4, .ref (q9)), (0, .ref (g.2.2 (0))), (1, .int (x1)), (2, .int (x2)), (3, .ref (g.2.2 (122)))]) X.1 X.2.1 (dk T_L_part 12 rfl) hl (Nat.le_of_ble_eq_true rfl) rfl (fun ls hl => ?_)
      refine lv_iconst (v := 2) X.1 X.2.1 (dk T_L_part 13 rfl) ic_2 ?_
      exact KR 2 τ _ _ _ _ _ _ (Option.some.inj h).symm (Nat.le_of_ble_eq_true rfl) (Nat.le_of_ble_eq_true rfl) Y (dk T_L_part 14 rfl)
    replace h := ineg c6 h
    cases h
  · subst e2; replace h := ser h; try dsimp only at h
    refine lv_i2l X.1 X.2.1 (dk T_L_part 6 rfl) rfl ?_
    obtain ⟨g7, h⟩ := gd h
    refine gls X Y (x := y3) rfl (inp g7) (dk T_L_part 7 rfl) (fun H locs Y => ?_)
    refine lv_goto (tgt := 21) X.1 X.2.1 (dk T_L_part 8 rfl) rfl ?_
    refine lv_iconst (v := 0) X.1 X.2.1 (dk T_L_part 15 rfl) ic_0 ?_
    exact KR 0 (up t4 122 (0 : Int32).toNatClampNeg y3) _ _ _ _ _ _ (Option.some.inj h).symm (Nat.le_of_ble_eq_true rfl) (Nat.le_of_ble_eq_true rfl) Y (dk T_L_part 16 rfl)
def f_L_part (x1 : Int32) (x2 : Int32) (σ : St) : Option (Int32 × St) := f_L_part_0 x1 x2 σ
set_option maxHeartbeats 4000000 in
set_option maxRecDepth 100000 in
theorem c_L_part {l : Launch} {g : Geo} (x1 : Int32) (x2 : Int32) (σ : St) {w : Int32 × St} (h : f_L_part x1 x2 σ = some w) : CtH l yL_part cL_part 5 (some .int) [(0, 10, 13, 25), (0, 10, 17, 13)] 8 141 2 12 g [.ref (g.2.2 (0)), .int (x1), .int (x2), .ref (g.2.2 (122))] σ w := enH .int (by decide) rfl (fun _ => rfl) (Nat.le_of_ble_eq_true rfl) (fun p e s m args below meth c Q X TX hst hTab Y ls hl KR => w_L_part_0 X TX hst hTab x1 x2 σ KR Y hl h)
def I_L_reason : List (Nat × Instr × Nat) := [(0, .aload_n 3, 1), (1, .iconst 0, 1), (2, .aload_n 0, 1), (3, .iload_n 1, 1), (4, .iload_n 2, 1), (5, .invokevirtual 51, 3), (8, .i2l, 1), (9, .lastore, 1), (10, .goto 7, 3), (13, .astore 4, 2), (15, .iconst 1, 1), (16, .ireturn, 1), (17, .iconst 0, 1), (18, .ireturn, 1)]
set_option maxRecDepth 100000 in
theorem T_L_reason : ∀ q ∈ I_L_reason, decode cL_reason q.1 = .ok (q.2.1, q.2.2) := by decide +kernel
def f_L_reason_0 (x1 : Int32) (x2 : Int32) (σ : St) : Option (Int32 × St) :=
  (f_X10_reason x1 x2 σ).bind fun q1 => Sum.elim (fun x => if x.1 = "java/util/NoSuchElementException" then some (1, x.2) else none) (fun q1 => chk (inb 0 1) (some (0, up q1.2 122 (0 : Int32).toNatClampNeg q1.1))) q1
set_option maxHeartbeats 4000000 in
set_option maxRecDepth 100000 in
theorem w_L_reason_0 (X : Cx g RL cL_reason 5 (some .int) p s m args meth c) (TX : TXs g (GA g s.heap.size) s s.heap) (hst : l.stackTraces = false) (hTab : c.exceptionTable.toList = tableOf [(0, 10, 13, 55)]) (x1 : Int32) (x2 : Int32) (σ : St) {w : Int32 × St} (KR : ∀ (v : Int32) (τ : St) (H : Heap) (locs : List Loc) (ls : Array Slot) (pc k n : Nat), w = (v, τ) → k ≤ 1 → n ≤ 6 → Wd g s τ H locs → decode cL_reason pc = .ok (.ireturn, 1) → W p l e (rmT 8 134 1 6) s m args below meth c H locs k n Q (F0 m pc ls [.int v])) {H : Heap} {locs : List Loc} {ls : Array Slot} (Y : Wd g s σ H locs) (hl : lv_has ls 5 [(0, .ref (g.2.2 (0))), (1, .int (x1)), (2, .int (x2)), (3, .ref (g.2.2 (122)))]) (h : f_L_reason_0 x1 x2 σ = some w) : W p l e (rmT 8 134 1 6) s m args below meth c H locs 0 0 Q (F0 m 0 ls []) := by
  unfold f_L_reason_0 at h
  refine lv_aload_n X.1 X.2.1 (dk T_L_reason 0 rfl) rfl (lv_at hl 3 rfl) ?_
  refine lv_iconst (v := 0) X.1 X.2.1 (dk T_L_reason 1 rfl) ic_0 ?_
  refine lv_aload_n X.1 X.2.1 (dk T_L_reason 2 rfl) rfl (lv_at hl 0 rfl) ?_
  refine lv_iload_n X.1 X.2.1 (dk T_L_reason 3 rfl) rfl (lv_at hl 1 rfl) ?_
  refine lv_iload_n X.1 X.2.1 (dk T_L_reason 4 rfl) rfl (lv_at hl 2 rfl) ?_
  obtain ⟨q1, hq1, h⟩ := bs h
  refine gvT (rest := [.int (0), .ref (g.2.2 (122))]) X TX hst Y (c_X10_reason x1 x2 σ hq1) cb_L_51 rfl hl.1 rfl rfl (Nat.le_of_ble_eq_true rfl) ⟨(Nat.le_of_ble_eq_true rfl), (Nat.le_of_ble_eq_true rfl)⟩ ⟨(Nat.le_of_ble_eq_true rfl), (Nat.le_of_ble_eq_true rfl)⟩ (dk T_L_reason 5 rfl) (fun E τ ce q9 H locs e2 Y h1 h2 h3 => ?_) (fun y3 t4 H locs e2 Y => ?_)
  · subst e2; replace h := sel h
    by_cases c5 : E = "java/util/NoSuchElementException"
    · replace h := ipos c5 h; subst c5
      refine vx_catch (own := RL) (name := "java/util/NoSuchElementException") X.2.2.2.2.1 [] ⟨0, 10, 13, 55⟩ [] (hTab.trans rfl) (fun _ hz => absurd hz List.not_mem_nil) rfl (by decide) (X.2.2.2.2.2.1 _ (mw 24 22 rfl rfl)) (va_Nw.use rfl (TX.2.2.2.1 _ (by decide))) h1 h2 h3 ?_
      refine lv_astore (lv' := [(4, .ref (q9)), (0, .ref (g.2.2 (0))), (1, .int (x1)), (2, .int (x2)), (3, .ref (g.2.2 (122)))]) X.1 X.2.1 (dk T_L_reason 9 rfl) hl (Nat.le_of_ble_eq_true rfl) rfl (fun ls hl => ?_)
      refine lv_iconst (v := 1) X.1 X.2.1 (dk T_L_reason 10 rfl) ic_1 ?_
      exact KR 1 τ _ _ _ _ _ _ (Option.some.inj h).symm (Nat.le_of_ble_eq_true rfl) (Nat.le_of_ble_eq_true rfl) Y (dk T_L_reason 11 rfl)
    replace h := ineg c5 h
    cases h
  · subst e2; replace h := ser h; try dsimp only at h
    refine lv_i2l X.1 X.2.1 (dk T_L_reason 6 rfl) rfl ?_
    obtain ⟨g6, h⟩ := gd h
    refine gls X Y (x := y3) rfl (inp g6) (dk T_L_reason 7 rfl) (fun H locs Y => ?_)
    refine lv_goto (tgt := 17) X.1 X.2.1 (dk T_L_reason 8 rfl) rfl ?_
    refine lv_iconst (v := 0) X.1 X.2.1 (dk T_L_reason 12 rfl) ic_0 ?_
    exact KR 0 (up t4 122 (0 : Int32).toNatClampNeg y3) _ _ _ _ _ _ (Option.some.inj h).symm (Nat.le_of_ble_eq_true rfl) (Nat.le_of_ble_eq_true rfl) Y (dk T_L_reason 13 rfl)
def f_L_reason (x1 : Int32) (x2 : Int32) (σ : St) : Option (Int32 × St) := f_L_reason_0 x1 x2 σ
set_option maxHeartbeats 4000000 in
set_option maxRecDepth 100000 in
theorem c_L_reason {l : Launch} {g : Geo} (x1 : Int32) (x2 : Int32) (σ : St) {w : Int32 × St} (h : f_L_reason x1 x2 σ = some w) : CtH l yL_reason cL_reason 5 (some .int) [(0, 10, 13, 55)] 8 134 1 6 g [.ref (g.2.2 (0)), .int (x1), .int (x2), .ref (g.2.2 (122))] σ w := enH .int (by decide) rfl (fun _ => rfl) (Nat.le_of_ble_eq_true rfl) (fun p e s m args below meth c Q X TX hst hTab Y ls hl KR => w_L_reason_0 X TX hst hTab x1 x2 σ KR Y hl h)
def I_L_nest : List (Nat × Instr × Nat) := [(0, .aload_n 2, 1), (1, .iconst 0, 1), (2, .aload_n 0, 1), (3, .iload_n 1, 1), (4, .invokevirtual 57, 3), (7, .i2l, 1), (8, .lastore, 1), (9, .goto 9, 3), (12, .astore_n 3, 1), (13, .iconst 1, 1), (14, .ireturn, 1), (15, .astore_n 3, 1), (16, .iconst 2, 1), (17, .ireturn, 1), (18, .iconst 0, 1), (19, .ireturn, 1)]
set_option maxRecDepth 100000 in
theorem T_L_nest : ∀ q ∈ I_L_nest, decode cL_nest q.1 = .ok (q.2.1, q.2.2) := by decide +kernel
def f_L_nest_0 (x1 : Int32) (σ : St) : Option (Int32 × St) :=
  (f_X10_nest x1 σ).bind fun q1 => Sum.elim (fun x => if x.1 = "java/lang/IndexOutOfBoundsException" then some (1, x.2) else if x.1 = "java/util/NoSuchElementException" then some (2, x.2) else none) (fun q1 => chk (inb 0 1) (some (0, up q1.2 122 (0 : Int32).toNatClampNeg q1.1))) q1
set_option maxHeartbeats 4000000 in
set_option maxRecDepth 100000 in
theorem w_L_nest_0 (X : Cx g RL cL_nest 4 (some .int) p s m args meth c) (TX : TXs g (GA g s.heap.size) s s.heap) (hst : l.stackTraces = false) (hTab : c.exceptionTable.toList = tableOf [(0, 9, 12, 25), (0, 9, 15, 55)]) (x1 : Int32) (σ : St) {w : Int32 × St} (KR : ∀ (v : Int32) (τ : St) (H : Heap) (locs : List Loc) (ls : Array Slot) (pc k n : Nat), w = (v, τ) → k ≤ 2 → n ≤ 12 → Wd g s τ H locs → decode cL_nest pc = .ok (.ireturn, 1) → W p l e (rmT 8 176 2 12) s m args below meth c H locs k n Q (F0 m pc ls [.int v])) {H : Heap} {locs : List Loc} {ls : Array Slot} (Y : Wd g s σ H locs) (hl : lv_has ls 4 [(0, .ref (g.2.2 (0))), (1, .int (x1)), (2, .ref (g.2.2 (122)))]) (h : f_L_nest_0 x1 σ = some w) : W p l e (rmT 8 176 2 12) s m args below meth c H locs 0 0 Q (F0 m 0 ls []) := by
  unfold f_L_nest_0 at h
  refine lv_aload_n X.1 X.2.1 (dk T_L_nest 0 rfl) rfl (lv_at hl 2 rfl) ?_
  refine lv_iconst (v := 0) X.1 X.2.1 (dk T_L_nest 1 rfl) ic_0 ?_
  refine lv_aload_n X.1 X.2.1 (dk T_L_nest 2 rfl) rfl (lv_at hl 0 rfl) ?_
  refine lv_iload_n X.1 X.2.1 (dk T_L_nest 3 rfl) rfl (lv_at hl 1 rfl) ?_
  obtain ⟨q1, hq1, h⟩ := bs h
  refine gvT (rest := [.int (0), .ref (g.2.2 (122))]) X TX hst Y (c_X10_nest x1 σ hq1) cb_L_57 rfl hl.1 rfl rfl (Nat.le_of_ble_eq_true rfl) ⟨(Nat.le_of_ble_eq_true rfl), (Nat.le_of_ble_eq_true rfl)⟩ ⟨(Nat.le_of_ble_eq_true rfl), (Nat.le_of_ble_eq_true rfl)⟩ (dk T_L_nest 4 rfl) (fun E τ ce q9 H locs e2 Y h1 h2 h3 => ?_) (fun y3 t4 H locs e2 Y => ?_)
  · subst e2; replace h := sel h
    by_cases c5 : E = "java/lang/IndexOutOfBoundsException"
    · replace h := ipos c5 h; subst c5
      refine vx_catch (own := RL) (name := "java/lang/IndexOutOfBoundsException") X.2.2.2.2.1 [] ⟨0, 9, 12, 25⟩ [⟨0, 9, 15, 55⟩] (hTab.trans rfl) (fun _ hz => absurd hz List.not_mem_nil) rfl (by decide) (X.2.2.2.2.2.1 _ (mw 10 4 rfl rfl)) (va_Nw.use rfl (TX.2.2.2.1 _ (by decide))) h1 h2 h3 ?_
      refine lv_astore_n (lv' := [(3, .ref (q9)), (0, .ref (g.2.2 (0))), (1, .int (x1)), (2, .ref (g.2.2 (122)))]) X.1 X.2.1 (dk T_L_nest 8 rfl) rfl hl (Nat.le_of_ble_eq_true rfl) rfl (fun ls hl => ?_)
      refine lv_iconst (v := 1) X.1 X.2.1 (dk T_L_nest 9 rfl) ic_1 ?_
      exact KR 1 τ _ _ _ _ _ _ (Option.some.inj h).symm (Nat.le_of_ble_eq_true rfl) (Nat.le_of_ble_eq_true rfl) Y (dk T_L_nest 10 rfl)
    replace h := ineg c5 h
    by_cases c6 : E = "java/util/NoSuchElementException"
    · replace h := ipos c6 h; subst c6
      refine vx_catch (own := RL) (name := "java/util/NoSuchElementException") X.2.2.2.2.1 [⟨0, 9, 12, 25⟩] ⟨0, 9, 15, 55⟩ [] (hTab.trans rfl) (List.forall_mem_cons.mpr ⟨Or.inr ⟨by decide, "java/lang/IndexOutOfBoundsException", X.2.2.2.2.2.1 _ (mw 10 4 rfl rfl), TX.2.2.2.2.2 ("java/util/NoSuchElementException", "java/lang/IndexOutOfBoundsException") (by decide)⟩, fun _ hz => absurd hz List.not_mem_nil⟩) rfl (by decide) (X.2.2.2.2.2.1 _ (mw 24 22 rfl rfl)) (va_Nw.use rfl (TX.2.2.2.1 _ (by decide))) h1 h2 h3 ?_
      refine lv_astore_n (lv' := [(3, .ref (q9)), (0, .ref (g.2.2 (0))), (1, .int (x1)), (2, .ref (g.2.2 (122)))]) X.1 X.2.1 (dk T_L_nest 11 rfl) rfl hl (Nat.le_of_ble_eq_true rfl) rfl (fun ls hl => ?_)
      refine lv_iconst (v := 2) X.1 X.2.1 (dk T_L_nest 12 rfl) ic_2 ?_
      exact KR 2 τ _ _ _ _ _ _ (Option.some.inj h).symm (Nat.le_of_ble_eq_true rfl) (Nat.le_of_ble_eq_true rfl) Y (dk T_L_nest 13 rfl)
    replace h := ineg c6 h
    cases h
  · subst e2; replace h := ser h; try dsimp only at h
    refine lv_i2l X.1 X.2.1 (dk T_L_nest 5 rfl) rfl ?_
    obtain ⟨g7, h⟩ := gd h
    refine gls X Y (x := y3) rfl (inp g7) (dk T_L_nest 6 rfl) (fun H locs Y => ?_)
    refine lv_goto (tgt := 18) X.1 X.2.1 (dk T_L_nest 7 rfl) rfl ?_
    refine lv_iconst (v := 0) X.1 X.2.1 (dk T_L_nest 14 rfl) ic_0 ?_
    exact KR 0 (up t4 122 (0 : Int32).toNatClampNeg y3) _ _ _ _ _ _ (Option.some.inj h).symm (Nat.le_of_ble_eq_true rfl) (Nat.le_of_ble_eq_true rfl) Y (dk T_L_nest 15 rfl)
def f_L_nest (x1 : Int32) (σ : St) : Option (Int32 × St) := f_L_nest_0 x1 σ
set_option maxHeartbeats 4000000 in
set_option maxRecDepth 100000 in
theorem c_L_nest {l : Launch} {g : Geo} (x1 : Int32) (σ : St) {w : Int32 × St} (h : f_L_nest x1 σ = some w) : CtH l yL_nest cL_nest 4 (some .int) [(0, 9, 12, 25), (0, 9, 15, 55)] 8 176 2 12 g [.ref (g.2.2 (0)), .int (x1), .ref (g.2.2 (122))] σ w := enH .int (by decide) rfl (fun _ => rfl) (Nat.le_of_ble_eq_true rfl) (fun p e s m args below meth c Q X TX hst hTab Y ls hl KR => w_L_nest_0 X TX hst hTab x1 σ KR Y hl h)
def I_L_remnant : List (Nat × Instr × Nat) := [(0, .aload 4, 2), (2, .iconst 0, 1), (3, .aload_n 0, 1), (4, .iload_n 1, 1), (5, .iload_n 2, 1), (6, .iload_n 3, 1), (7, .invokevirtual 60, 3), (10, .i2l, 1), (11, .lastore, 1), (12, .goto 11, 3), (15, .astore 5, 2), (17, .iconst 1, 1), (18, .ireturn, 1), (19, .astore 5, 2), (21, .iconst 2, 1), (22, .ireturn, 1), (23, .iconst 0, 1), (24, .ireturn, 1)]
set_option maxRecDepth 100000 in
theorem T_L_remnant : ∀ q ∈ I_L_remnant, decode cL_remnant q.1 = .ok (q.2.1, q.2.2) := by decide +kernel
def f_L_remnant_0 (x1 : Int32) (x2 : Int32) (x3 : Int32) (σ : St) : Option (Int32 × St) :=
  (f_X10_remnant x1 x2 x3 σ).bind fun q1 => Sum.elim (fun x => if x.1 = "java/lang/IndexOutOfBoundsException" then some (1, x.2) else if x.1 = "java/lang/IllegalArgumentException" then some (2, x.2) else none) (fun q1 => chk (inb 0 1) (some (0, up q1.2 122 (0 : Int32).toNatClampNeg q1.1))) q1
set_option maxHeartbeats 4000000 in
set_option maxRecDepth 100000 in
theorem w_L_remnant_0 (X : Cx g RL cL_remnant 6 (some .int) p s m args meth c) (TX : TXs g (GA g s.heap.size) s s.heap) (hst : l.stackTraces = false) (hTab : c.exceptionTable.toList = tableOf [(0, 12, 15, 25), (0, 12, 19, 13)]) (x1 : Int32) (x2 : Int32) (x3 : Int32) (σ : St) {w : Int32 × St} (KR : ∀ (v : Int32) (τ : St) (H : Heap) (locs : List Loc) (ls : Array Slot) (pc k n : Nat), w = (v, τ) → k ≤ 3 → n ≤ 18 → Wd g s τ H locs → decode cL_remnant pc = .ok (.ireturn, 1) → W p l e (rmT 8 138 3 18) s m args below meth c H locs k n Q (F0 m pc ls [.int v])) {H : Heap} {locs : List Loc} {ls : Array Slot} (Y : Wd g s σ H locs) (hl : lv_has ls 6 [(0, .ref (g.2.2 (0))), (1, .int (x1)), (2, .int (x2)), (3, .int (x3)), (4, .ref (g.2.2 (122)))]) (h : f_L_remnant_0 x1 x2 x3 σ = some w) : W p l e (rmT 8 138 3 18) s m args below meth c H locs 0 0 Q (F0 m 0 ls []) := by
  unfold f_L_remnant_0 at h
  refine lv_aload X.1 X.2.1 (dk T_L_remnant 0 rfl) (lv_at hl 4 rfl) ?_
  refine lv_iconst (v := 0) X.1 X.2.1 (dk T_L_remnant 1 rfl) ic_0 ?_
  refine lv_aload_n X.1 X.2.1 (dk T_L_remnant 2 rfl) rfl (lv_at hl 0 rfl) ?_
  refine lv_iload_n X.1 X.2.1 (dk T_L_remnant 3 rfl) rfl (lv_at hl 1 rfl) ?_
  refine lv_iload_n X.1 X.2.1 (dk T_L_remnant 4 rfl) rfl (lv_at hl 2 rfl) ?_
  refine lv_iload_n X.1 X.2.1 (dk T_L_remnant 5 rfl) rfl (lv_at hl 3 rfl) ?_
  obtain ⟨q1, hq1, h⟩ := bs h
  refine gvT (rest := [.int (0), .ref (g.2.2 (122))]) X TX hst Y (c_X10_remnant x1 x2 x3 σ hq1) cb_L_60 rfl hl.1 rfl rfl (Nat.le_of_ble_eq_true rfl) ⟨(Nat.le_of_ble_eq_true rfl), (Nat.le_of_ble_eq_true rfl)⟩ ⟨(Nat.le_of_ble_eq_true rfl), (Nat.le_of_ble_eq_true rfl)⟩ (dk T_L_remnant 6 rfl) (fun E τ ce q9 H locs e2 Y h1 h2 h3 => ?_) (fun y3 t4 H locs e2 Y => ?_)
  · subst e2; replace h := sel h
    by_cases c5 : E = "java/lang/IndexOutOfBoundsException"
    · replace h := ipos c5 h; subst c5
      refine vx_catch (own := RL) (name := "java/lang/IndexOutOfBoundsException") X.2.2.2.2.1 [] ⟨0, 12, 15, 25⟩ [⟨0, 12, 19, 13⟩] (hTab.trans rfl) (fun _ hz => absurd hz List.not_mem_nil) rfl (by decide) (X.2.2.2.2.2.1 _ (mw 10 4 rfl rfl)) (va_Nw.use rfl (TX.2.2.2.1 _ (by decide))) h1 h2 h3 ?_
      refine lv_astore (lv' := [(5, .ref (q9)), (0, .ref (g.2.2 (0))), (1, .int (x1)), (2, .int (x2)), (3, .int (x3)), (4, .ref (g.2.2 (122)))]) X.1 X.2.1 (dk T_L_remnant 10 rfl) hl (Nat.le_of_ble_eq_true rfl) rfl (fun ls hl => ?_)
      refine lv_iconst (v := 1) X.1 X.2.1 (dk T_L_remnant 11 rfl) ic_1 ?_
      exact KR 1 τ _ _ _ _ _ _ (Option.some.inj h).symm (Nat.le_of_ble_eq_true rfl) (Nat.le_of_ble_eq_true rfl) Y (dk T_L_remnant 12 rfl)
    replace h := ineg c5 h
    by_cases c6 : E = "java/lang/IllegalArgumentException"
    · replace h := ipos c6 h; subst c6
      refine vx_catch (own := RL) (name := "java/lang/IllegalArgumentException") X.2.2.2.2.1 [⟨0, 12, 15, 25⟩] ⟨0, 12, 19, 13⟩ [] (hTab.trans rfl) (List.forall_mem_cons.mpr ⟨Or.inr ⟨by decide, "java/lang/IndexOutOfBoundsException", X.2.2.2.2.2.1 _ (mw 10 4 rfl rfl), TX.2.2.2.2.2 ("java/lang/IllegalArgumentException", "java/lang/IndexOutOfBoundsException") (by decide)⟩, fun _ hz => absurd hz List.not_mem_nil⟩) rfl (by decide) (X.2.2.2.2.2.1 _ (mw 5 4 rfl rfl)) (va_Nw.use rfl (TX.2.2.2.1 _ (by decide))) h1 h2 h3 ?_
      refine lv_astore (lv' := [(5, .ref (q9)), (0, .ref (g.2.2 (0))), (1, .int (x1)), (2, .int (x2)), (3, .int (x3)), (4, .ref (g.2.2 (122)))]) X.1 X.2.1 (dk T_L_remnant 13 rfl) hl (Nat.le_of_ble_eq_true rfl) rfl (fun ls hl => ?_)
      refine lv_iconst (v := 2) X.1 X.2.1 (dk T_L_remnant 14 rfl) ic_2 ?_
      exact KR 2 τ _ _ _ _ _ _ (Option.some.inj h).symm (Nat.le_of_ble_eq_true rfl) (Nat.le_of_ble_eq_true rfl) Y (dk T_L_remnant 15 rfl)
    replace h := ineg c6 h
    cases h
  · subst e2; replace h := ser h; try dsimp only at h
    refine lv_i2l X.1 X.2.1 (dk T_L_remnant 7 rfl) rfl ?_
    obtain ⟨g7, h⟩ := gd h
    refine gls X Y (x := y3) rfl (inp g7) (dk T_L_remnant 8 rfl) (fun H locs Y => ?_)
    refine lv_goto (tgt := 23) X.1 X.2.1 (dk T_L_remnant 9 rfl) rfl ?_
    refine lv_iconst (v := 0) X.1 X.2.1 (dk T_L_remnant 16 rfl) ic_0 ?_
    exact KR 0 (up t4 122 (0 : Int32).toNatClampNeg y3) _ _ _ _ _ _ (Option.some.inj h).symm (Nat.le_of_ble_eq_true rfl) (Nat.le_of_ble_eq_true rfl) Y (dk T_L_remnant 17 rfl)
def f_L_remnant (x1 : Int32) (x2 : Int32) (x3 : Int32) (σ : St) : Option (Int32 × St) := f_L_remnant_0 x1 x2 x3 σ
set_option maxHeartbeats 4000000 in
set_option maxRecDepth 100000 in
theorem c_L_remnant {l : Launch} {g : Geo} (x1 : Int32) (x2 : Int32) (x3 : Int32) (σ : St) {w : Int32 × St} (h : f_L_remnant x1 x2 x3 σ = some w) : CtH l yL_remnant cL_remnant 6 (some .int) [(0, 12, 15, 25), (0, 12, 19, 13)] 8 138 3 18 g [.ref (g.2.2 (0)), .int (x1), .int (x2), .int (x3), .ref (g.2.2 (122))] σ w := enH .int (by decide) rfl (fun _ => rfl) (Nat.le_of_ble_eq_true rfl) (fun p e s m args below meth c Q X TX hst hTab Y ls hl KR => w_L_remnant_0 X TX hst hTab x1 x2 x3 σ KR Y hl h)
def I_L_keep : List (Nat × Instr × Nat) := [(0, .aload_n 3, 1), (1, .iconst 0, 1), (2, .aload_n 0, 1), (3, .iload_n 1, 1), (4, .iload_n 2, 1), (5, .invokevirtual 63, 3), (8, .i2l, 1), (9, .lastore, 1), (10, .goto 11, 3), (13, .astore 4, 2), (15, .iconst 1, 1), (16, .ireturn, 1), (17, .astore 4, 2), (19, .iconst 2, 1), (20, .ireturn, 1), (21, .iconst 0, 1), (22, .ireturn, 1)]
set_option maxRecDepth 100000 in
theorem T_L_keep : ∀ q ∈ I_L_keep, decode cL_keep q.1 = .ok (q.2.1, q.2.2) := by decide +kernel
def f_L_keep_0 (x1 : Int32) (x2 : Int32) (σ : St) : Option (Int32 × St) :=
  (f_X10_keep x1 x2 σ).bind fun q1 => Sum.elim (fun x => if x.1 = "java/lang/IndexOutOfBoundsException" then some (1, x.2) else if x.1 = "java/lang/IllegalStateException" then some (2, x.2) else none) (fun q1 => chk (inb 0 1) (some (0, up q1.2 122 (0 : Int32).toNatClampNeg q1.1))) q1
set_option maxHeartbeats 4000000 in
set_option maxRecDepth 100000 in
theorem w_L_keep_0 (X : Cx g RL cL_keep 5 (some .int) p s m args meth c) (TX : TXs g (GA g s.heap.size) s s.heap) (hst : l.stackTraces = false) (hTab : c.exceptionTable.toList = tableOf [(0, 10, 13, 25), (0, 10, 17, 15)]) (x1 : Int32) (x2 : Int32) (σ : St) {w : Int32 × St} (KR : ∀ (v : Int32) (τ : St) (H : Heap) (locs : List Loc) (ls : Array Slot) (pc k n : Nat), w = (v, τ) → k ≤ 3 → n ≤ 18 → Wd g s τ H locs → decode cL_keep pc = .ok (.ireturn, 1) → W p l e (rmT 8 137 3 18) s m args below meth c H locs k n Q (F0 m pc ls [.int v])) {H : Heap} {locs : List Loc} {ls : Array Slot} (Y : Wd g s σ H locs) (hl : lv_has ls 5 [(0, .ref (g.2.2 (0))), (1, .int (x1)), (2, .int (x2)), (3, .ref (g.2.2 (122)))]) (h : f_L_keep_0 x1 x2 σ = some w) : W p l e (rmT 8 137 3 18) s m args below meth c H locs 0 0 Q (F0 m 0 ls []) := by
  unfold f_L_keep_0 at h
  refine lv_aload_n X.1 X.2.1 (dk T_L_keep 0 rfl) rfl (lv_at hl 3 rfl) ?_
  refine lv_iconst (v := 0) X.1 X.2.1 (dk T_L_keep 1 rfl) ic_0 ?_
  refine lv_aload_n X.1 X.2.1 (dk T_L_keep 2 rfl) rfl (lv_at hl 0 rfl) ?_
  refine lv_iload_n X.1 X.2.1 (dk T_L_keep 3 rfl) rfl (lv_at hl 1 rfl) ?_
  refine lv_iload_n X.1 X.2.1 (dk T_L_keep 4 rfl) rfl (lv_at hl 2 rfl) ?_
  obtain ⟨q1, hq1, h⟩ := bs h
  refine gvT (rest := [.int (0), .ref (g.2.2 (122))]) X TX hst Y (c_X10_keep x1 x2 σ hq1) cb_L_63 rfl hl.1 rfl rfl (Nat.le_of_ble_eq_true rfl) ⟨(Nat.le_of_ble_eq_true rfl), (Nat.le_of_ble_eq_true rfl)⟩ ⟨(Nat.le_of_ble_eq_true rfl), (Nat.le_of_ble_eq_true rfl)⟩ (dk T_L_keep 5 rfl) (fun E τ ce q9 H locs e2 Y h1 h2 h3 => ?_) (fun y3 t4 H locs e2 Y => ?_)
  · subst e2; replace h := sel h
    by_cases c5 : E = "java/lang/IndexOutOfBoundsException"
    · replace h := ipos c5 h; subst c5
      refine vx_catch (own := RL) (name := "java/lang/IndexOutOfBoundsException") X.2.2.2.2.1 [] ⟨0, 10, 13, 25⟩ [⟨0, 10, 17, 15⟩] (hTab.trans rfl) (fun _ hz => absurd hz List.not_mem_nil) rfl (by decide) (X.2.2.2.2.2.1 _ (mw 10 4 rfl rfl)) (va_Nw.use rfl (TX.2.2.2.1 _ (by decide))) h1 h2 h3 ?_
      refine lv_astore (lv' := [(4, .ref (q9)), (0, .ref (g.2.2 (0))), (1, .int (x1)), (2, .int (x2)), (3, .ref (g.2.2 (122)))]) X.1 X.2.1 (dk T_L_keep 9 rfl) hl (Nat.le_of_ble_eq_true rfl) rfl (fun ls hl => ?_)
      refine lv_iconst (v := 1) X.1 X.2.1 (dk T_L_keep 10 rfl) ic_1 ?_
      exact KR 1 τ _ _ _ _ _ _ (Option.some.inj h).symm (Nat.le_of_ble_eq_true rfl) (Nat.le_of_ble_eq_true rfl) Y (dk T_L_keep 11 rfl)
    replace h := ineg c5 h
    by_cases c6 : E = "java/lang/IllegalStateException"
    · replace h := ipos c6 h; subst c6
      refine vx_catch (own := RL) (name := "java/lang/IllegalStateException") X.2.2.2.2.1 [⟨0, 10, 13, 25⟩] ⟨0, 10, 17, 15⟩ [] (hTab.trans rfl) (List.forall_mem_cons.mpr ⟨Or.inr ⟨by decide, "java/lang/IndexOutOfBoundsException", X.2.2.2.2.2.1 _ (mw 10 4 rfl rfl), TX.2.2.2.2.2 ("java/lang/IllegalStateException", "java/lang/IndexOutOfBoundsException") (by decide)⟩, fun _ hz => absurd hz List.not_mem_nil⟩) rfl (by decide) (X.2.2.2.2.2.1 _ (mw 5 5 rfl rfl)) (va_Nw.use rfl (TX.2.2.2.1 _ (by decide))) h1 h2 h3 ?_
      refine lv_astore (lv' := [(4, .ref (q9)), (0, .ref (g.2.2 (0))), (1, .int (x1)), (2, .int (x2)), (3, .ref (g.2.2 (122)))]) X.1 X.2.1 (dk T_L_keep 12 rfl) hl (Nat.le_of_ble_eq_true rfl) rfl (fun ls hl => ?_)
      refine lv_iconst (v := 2) X.1 X.2.1 (dk T_L_keep 13 rfl) ic_2 ?_
      exact KR 2 τ _ _ _ _ _ _ (Option.some.inj h).symm (Nat.le_of_ble_eq_true rfl) (Nat.le_of_ble_eq_true rfl) Y (dk T_L_keep 14 rfl)
    replace h := ineg c6 h
    cases h
  · subst e2; replace h := ser h; try dsimp only at h
    refine lv_i2l X.1 X.2.1 (dk T_L_keep 6 rfl) rfl ?_
    obtain ⟨g7, h⟩ := gd h
    refine gls X Y (x := y3) rfl (inp g7) (dk T_L_keep 7 rfl) (fun H locs Y => ?_)
    refine lv_goto (tgt := 21) X.1 X.2.1 (dk T_L_keep 8 rfl) rfl ?_
    refine lv_iconst (v := 0) X.1 X.2.1 (dk T_L_keep 15 rfl) ic_0 ?_
    exact KR 0 (up t4 122 (0 : Int32).toNatClampNeg y3) _ _ _ _ _ _ (Option.some.inj h).symm (Nat.le_of_ble_eq_true rfl) (Nat.le_of_ble_eq_true rfl) Y (dk T_L_keep 16 rfl)
def f_L_keep (x1 : Int32) (x2 : Int32) (σ : St) : Option (Int32 × St) := f_L_keep_0 x1 x2 σ
set_option maxHeartbeats 4000000 in
set_option maxRecDepth 100000 in
theorem c_L_keep {l : Launch} {g : Geo} (x1 : Int32) (x2 : Int32) (σ : St) {w : Int32 × St} (h : f_L_keep x1 x2 σ = some w) : CtH l yL_keep cL_keep 5 (some .int) [(0, 10, 13, 25), (0, 10, 17, 15)] 8 137 3 18 g [.ref (g.2.2 (0)), .int (x1), .int (x2), .ref (g.2.2 (122))] σ w := enH .int (by decide) rfl (fun _ => rfl) (Nat.le_of_ble_eq_true rfl) (fun p e s m args below meth c Q X TX hst hTab Y ls hl KR => w_L_keep_0 X TX hst hTab x1 x2 σ KR Y hl h)
def I_L_way : List (Nat × Instr × Nat) := [(0, .aload 4, 2), (2, .iconst 0, 1), (3, .aload_n 0, 1), (4, .iload_n 1, 1), (5, .iload_n 2, 1), (6, .iload_n 3, 1), (7, .invokevirtual 66, 3), (10, .i2l, 1), (11, .lastore, 1), (12, .goto 19, 3), (15, .astore 5, 2), (17, .iconst 1, 1), (18, .ireturn, 1), (19, .astore 5, 2), (21, .iconst 2, 1), (22, .ireturn, 1), (23, .astore 5, 2), (25, .iconst 3, 1), (26, .ireturn, 1), (27, .astore 5, 2), (29, .iconst 4, 1), (30, .ireturn, 1), (31, .iconst 0, 1), (32, .ireturn, 1)]
set_option maxRecDepth 100000 in
theorem T_L_way : ∀ q ∈ I_L_way, decode cL_way q.1 = .ok (q.2.1, q.2.2) := by decide +kernel
def f_L_way_0 (x1 : Int32) (x2 : Int32) (x3 : Int32) (σ : St) : Option (Int32 × St) :=
  (f_X10_way x1 x2 x3 σ).bind fun q1 => Sum.elim (fun x => if x.1 = "java/lang/IndexOutOfBoundsException" then some (1, x.2) else if x.1 = "java/lang/IllegalArgumentException" then some (2, x.2) else if x.1 = "java/lang/UnsupportedOperationException" then some (3, x.2) else if x.1 = "java/util/NoSuchElementException" then some (4, x.2) else none) (fun q1 => chk (inb 0 1) (some (0, up q1.2 122 (0 : Int32).toNatClampNeg q1.1))) q1
set_option maxHeartbeats 4000000 in
set_option maxRecDepth 100000 in
theorem w_L_way_0 (X : Cx g RL cL_way 6 (some .int) p s m args meth c) (TX : TXs g (GA g s.heap.size) s s.heap) (hst : l.stackTraces = false) (hTab : c.exceptionTable.toList = tableOf [(0, 12, 15, 25), (0, 12, 19, 13), (0, 12, 23, 27), (0, 12, 27, 55)]) (x1 : Int32) (x2 : Int32) (x3 : Int32) (σ : St) {w : Int32 × St} (KR : ∀ (v : Int32) (τ : St) (H : Heap) (locs : List Loc) (ls : Array Slot) (pc k n : Nat), w = (v, τ) → k ≤ 2 → n ≤ 12 → Wd g s τ H locs → decode cL_way pc = .ok (.ireturn, 1) → W p l e (rmT 8 172 2 12) s m args below meth c H locs k n Q (F0 m pc ls [.int v])) {H : Heap} {locs : List Loc} {ls : Array Slot} (Y : Wd g s σ H locs) (hl : lv_has ls 6 [(0, .ref (g.2.2 (0))), (1, .int (x1)), (2, .int (x2)), (3, .int (x3)), (4, .ref (g.2.2 (122)))]) (h : f_L_way_0 x1 x2 x3 σ = some w) : W p l e (rmT 8 172 2 12) s m args below meth c H locs 0 0 Q (F0 m 0 ls []) := by
  unfold f_L_way_0 at h
  refine lv_aload X.1 X.2.1 (dk T_L_way 0 rfl) (lv_at hl 4 rfl) ?_
  refine lv_iconst (v := 0) X.1 X.2.1 (dk T_L_way 1 rfl) ic_0 ?_
  refine lv_aload_n X.1 X.2.1 (dk T_L_way 2 rfl) rfl (lv_at hl 0 rfl) ?_
  refine lv_iload_n X.1 X.2.1 (dk T_L_way 3 rfl) rfl (lv_at hl 1 rfl) ?_
  refine lv_iload_n X.1 X.2.1 (dk T_L_way 4 rfl) rfl (lv_at hl 2 rfl) ?_
  refine lv_iload_n X.1 X.2.1 (dk T_L_way 5 rfl) rfl (lv_at hl 3 rfl) ?_
  obtain ⟨q1, hq1, h⟩ := bs h
  refine gvT (rest := [.int (0), .ref (g.2.2 (122))]) X TX hst Y (c_X10_way x1 x2 x3 σ hq1) cb_L_66 rfl hl.1 rfl rfl (Nat.le_of_ble_eq_true rfl) ⟨(Nat.le_of_ble_eq_true rfl), (Nat.le_of_ble_eq_true rfl)⟩ ⟨(Nat.le_of_ble_eq_true rfl), (Nat.le_of_ble_eq_true rfl)⟩ (dk T_L_way 6 rfl) (fun E τ ce q9 H locs e2 Y h1 h2 h3 => ?_) (fun y3 t4 H locs e2 Y => ?_)
  · subst e2; replace h := sel h
    by_cases c5 : E = "java/lang/IndexOutOfBoundsException"
    · replace h := ipos c5 h; subst c5
      refine vx_catch (own := RL) (name := "java/lang/IndexOutOfBoundsException") X.2.2.2.2.1 [] ⟨0, 12, 15, 25⟩ [⟨0, 12, 19, 13⟩, ⟨0, 12, 23, 27⟩, ⟨0, 12, 27, 55⟩] (hTab.trans rfl) (fun _ hz => absurd hz List.not_mem_nil) rfl (by decide) (X.2.2.2.2.2.1 _ (mw 10 4 rfl rfl)) (va_Nw.use rfl (TX.2.2.2.1 _ (by decide))) h1 h2 h3 ?_
      refine lv_astore (lv' := [(5, .ref (q9)), (0, .ref (g.2.2 (0))), (1, .int (x1)), (2, .int (x2)), (3, .int (x3)), (4, .ref (g.2.2 (122)))]) X.1 X.2.1 (dk T_L_way 10 rfl) hl (Nat.le_of_ble_eq_true rfl) rfl (fun ls hl => ?_)
      refine lv_iconst (v := 1) X.1 X.2.1 (dk T_L_way 11 rfl) ic_1 ?_
      exact KR 1 τ _ _ _ _ _ _ (Option.some.inj h).symm (Nat.le_of_ble_eq_true rfl) (Nat.le_of_ble_eq_true rfl) Y (dk T_L_way 12 rfl)
    replace h := ineg c5 h
    by_cases c6 : E = "java/lang/IllegalArgumentException"
    · replace h := ipos c6 h; subst c6
      refine vx_catch (own := RL) (name := "java/lang/IllegalArgumentException") X.2.2.2.2.1 [⟨0, 12, 15, 25⟩] ⟨0, 12, 19, 13⟩ [⟨0, 12, 23, 27⟩, ⟨0, 12, 27, 55⟩] (hTab.trans rfl) (List.forall_mem_cons.mpr ⟨Or.inr ⟨by decide, "java/lang/IndexOutOfBoundsException", X.2.2.2.2.2.1 _ (mw 10 4 rfl rfl), TX.2.2.2.2.2 ("java/lang/IllegalArgumentException", "java/lang/IndexOutOfBoundsException") (by decide)⟩, fun _ hz => absurd hz List.not_mem_nil⟩) rfl (by decide) (X.2.2.2.2.2.1 _ (mw 5 4 rfl rfl)) (va_Nw.use rfl (TX.2.2.2.1 _ (by decide))) h1 h2 h3 ?_
      refine lv_astore (lv' := [(5, .ref (q9)), (0, .ref (g.2.2 (0))), (1, .int (x1)), (2, .int (x2)), (3, .int (x3)), (4, .ref (g.2.2 (122)))]) X.1 X.2.1 (dk T_L_way 13 rfl) hl (Nat.le_of_ble_eq_true rfl) rfl (fun ls hl => ?_)
      refine lv_iconst (v := 2) X.1 X.2.1 (dk T_L_way 14 rfl) ic_2 ?_
      exact KR 2 τ _ _ _ _ _ _ (Option.some.inj h).symm (Nat.le_of_ble_eq_true rfl) (Nat.le_of_ble_eq_true rfl) Y (dk T_L_way 15 rfl)
    replace h := ineg c6 h
    by_cases c7 : E = "java/lang/UnsupportedOperationException"
    · replace h := ipos c7 h; subst c7
      refine vx_catch (own := RL) (name := "java/lang/UnsupportedOperationException") X.2.2.2.2.1 [⟨0, 12, 15, 25⟩, ⟨0, 12, 19, 13⟩] ⟨0, 12, 23, 27⟩ [⟨0, 12, 27, 55⟩] (hTab.trans rfl) (List.forall_mem_cons.mpr ⟨Or.inr ⟨by decide, "java/lang/IndexOutOfBoundsException", X.2.2.2.2.2.1 _ (mw 10 4 rfl rfl), TX.2.2.2.2.2 ("java/lang/UnsupportedOperationException", "java/lang/IndexOutOfBoundsException") (by decide)⟩, List.forall_mem_cons.mpr ⟨Or.inr ⟨by decide, "java/lang/IllegalArgumentException", X.2.2.2.2.2.1 _ (mw 5 4 rfl rfl), TX.2.2.2.2.2 ("java/lang/UnsupportedOperationException", "java/lang/IllegalArgumentException") (by decide)⟩, fun _ hz => absurd hz List.not_mem_nil⟩⟩) rfl (by decide) (X.2.2.2.2.2.1 _ (mw 10 5 rfl rfl)) (va_Nw.use rfl (TX.2.2.2.1 _ (by decide))) h1 h2 h3 ?_
      refine lv_astore (lv' := [(5, .ref (q9)), (0, .ref (g.2.2 (0))), (1, .int (x1)), (2, .int (x2)), (3, .int (x3)), (4, .ref (g.2.2 (122)))]) X.1 X.2.1 (dk T_L_way 16 rfl) hl (Nat.le_of_ble_eq_true rfl) rfl (fun ls hl => ?_)
      refine lv_iconst (v := 3) X.1 X.2.1 (dk T_L_way 17 rfl) ic_3 ?_
      exact KR 3 τ _ _ _ _ _ _ (Option.some.inj h).symm (Nat.le_of_ble_eq_true rfl) (Nat.le_of_ble_eq_true rfl) Y (dk T_L_way 18 rfl)
    replace h := ineg c7 h
    by_cases c8 : E = "java/util/NoSuchElementException"
    · replace h := ipos c8 h; subst c8
      refine vx_catch (own := RL) (name := "java/util/NoSuchElementException") X.2.2.2.2.1 [⟨0, 12, 15, 25⟩, ⟨0, 12, 19, 13⟩, ⟨0, 12, 23, 27⟩] ⟨0, 12, 27, 55⟩ [] (hTab.trans rfl) (List.forall_mem_cons.mpr ⟨Or.inr ⟨by decide, "java/lang/IndexOutOfBoundsException", X.2.2.2.2.2.1 _ (mw 10 4 rfl rfl), TX.2.2.2.2.2 ("java/util/NoSuchElementException", "java/lang/IndexOutOfBoundsException") (by decide)⟩, List.forall_mem_cons.mpr ⟨Or.inr ⟨by decide, "java/lang/IllegalArgumentException", X.2.2.2.2.2.1 _ (mw 5 4 rfl rfl), TX.2.2.2.2.2 ("java/util/NoSuchElementException", "java/lang/IllegalArgumentException") (by decide)⟩, List.forall_mem_cons.mpr ⟨Or.inr ⟨by decide, "java/lang/UnsupportedOperationException", X.2.2.2.2.2.1 _ (mw 10 5 rfl rfl), TX.2.2.2.2.2 ("java/util/NoSuchElementException", "java/lang/UnsupportedOperationException") (by decide)⟩, fun _ hz => absurd hz List.not_mem_nil⟩⟩⟩) rfl (by decide) (X.2.2.2.2.2.1 _ (mw 24 22 rfl rfl)) (va_Nw.use rfl (TX.2.2.2.1 _ (by decide))) h1 h2 h3 ?_
      refine lv_astore (lv' := [(5, .ref (q9)), (0, .ref (g.2.2 (0))), (1, .int (x1)), (2, .int (x2)), (3, .int (x3)), (4, .ref (g.2.2 (122)))]) X.1 X.2.1 (dk T_L_way 19 rfl) hl (Nat.le_of_ble_eq_true rfl) rfl (fun ls hl => ?_)
      refine lv_iconst (v := 4) X.1 X.2.1 (dk T_L_way 20 rfl) ic_4 ?_
      exact KR 4 τ _ _ _ _ _ _ (Option.some.inj h).symm (Nat.le_of_ble_eq_true rfl) (Nat.le_of_ble_eq_true rfl) Y (dk T_L_way 21 rfl)
    replace h := ineg c8 h
    cases h
  · subst e2; replace h := ser h; try dsimp only at h
    refine lv_i2l X.1 X.2.1 (dk T_L_way 7 rfl) rfl ?_
    obtain ⟨g9, h⟩ := gd h
    refine gls X Y (x := y3) rfl (inp g9) (dk T_L_way 8 rfl) (fun H locs Y => ?_)
    refine lv_goto (tgt := 31) X.1 X.2.1 (dk T_L_way 9 rfl) rfl ?_
    refine lv_iconst (v := 0) X.1 X.2.1 (dk T_L_way 22 rfl) ic_0 ?_
    exact KR 0 (up t4 122 (0 : Int32).toNatClampNeg y3) _ _ _ _ _ _ (Option.some.inj h).symm (Nat.le_of_ble_eq_true rfl) (Nat.le_of_ble_eq_true rfl) Y (dk T_L_way 23 rfl)
def f_L_way (x1 : Int32) (x2 : Int32) (x3 : Int32) (σ : St) : Option (Int32 × St) := f_L_way_0 x1 x2 x3 σ
set_option maxHeartbeats 4000000 in
set_option maxRecDepth 100000 in
theorem c_L_way {l : Launch} {g : Geo} (x1 : Int32) (x2 : Int32) (x3 : Int32) (σ : St) {w : Int32 × St} (h : f_L_way x1 x2 x3 σ = some w) : CtH l yL_way cL_way 6 (some .int) [(0, 12, 15, 25), (0, 12, 19, 13), (0, 12, 23, 27), (0, 12, 27, 55)] 8 172 2 12 g [.ref (g.2.2 (0)), .int (x1), .int (x2), .int (x3), .ref (g.2.2 (122))] σ w := enH .int (by decide) rfl (fun _ => rfl) (Nat.le_of_ble_eq_true rfl) (fun p e s m args below meth c Q X TX hst hTab Y ls hl KR => w_L_way_0 X TX hst hTab x1 x2 x3 σ KR Y hl h)
def I_L_usedShare : List (Nat × Instr × Nat) := [(0, .aload_n 1, 1), (1, .iconst 0, 1), (2, .aload_n 0, 1), (3, .invokevirtual 69, 3), (6, .f2d, 1), (7, .dastore, 1), (8, .goto 6, 3), (11, .astore_n 2, 1), (12, .iconst 1, 1), (13, .ireturn, 1), (14, .iconst 0, 1), (15, .ireturn, 1)]
set_option maxRecDepth 100000 in
theorem T_L_usedShare : ∀ q ∈ I_L_usedShare, decode cL_usedShare q.1 = .ok (q.2.1, q.2.2) := by decide +kernel
def f_L_usedShare_0 (σ : St) : Option (Int32 × St) :=
  (f_X10_usedShare σ).bind fun q1 => Sum.elim (fun x => if x.1 = "java/lang/ArithmeticException" then some (1, x.2) else none) (fun q1 => chk (nf64 (FP.f2d q1.1.toUInt32)) (chk (inb 0 1) (some (0, up q1.2 123 (0 : Int32).toNatClampNeg q1.1)))) q1
set_option maxHeartbeats 4000000 in
set_option maxRecDepth 100000 in
theorem w_L_usedShare_0 (X : Cx g RL cL_usedShare 3 (some .int) p s m args meth c) (TX : TXs g (GA g s.heap.size) s s.heap) (hst : l.stackTraces = false) (hTab : c.exceptionTable.toList = tableOf [(0, 8, 11, 73)]) (σ : St) {w : Int32 × St} (KR : ∀ (v : Int32) (τ : St) (H : Heap) (locs : List Loc) (ls : Array Slot) (pc k n : Nat), w = (v, τ) → k ≤ 1 → n ≤ 6 → Wd g s τ H locs → decode cL_usedShare pc = .ok (.ireturn, 1) → W p l e (rmT 7 133 1 6) s m args below meth c H locs k n Q (F0 m pc ls [.int v])) {H : Heap} {locs : List Loc} {ls : Array Slot} (Y : Wd g s σ H locs) (hl : lv_has ls 3 [(0, .ref (g.2.2 (0))), (1, .ref (g.2.2 (123)))]) (h : f_L_usedShare_0 σ = some w) : W p l e (rmT 7 133 1 6) s m args below meth c H locs 0 0 Q (F0 m 0 ls []) := by
  unfold f_L_usedShare_0 at h
  refine lv_aload_n X.1 X.2.1 (dk T_L_usedShare 0 rfl) rfl (lv_at hl 1 rfl) ?_
  refine lv_iconst (v := 0) X.1 X.2.1 (dk T_L_usedShare 1 rfl) ic_0 ?_
  refine lv_aload_n X.1 X.2.1 (dk T_L_usedShare 2 rfl) rfl (lv_at hl 0 rfl) ?_
  obtain ⟨q1, hq1, h⟩ := bs h
  refine gvTF (rest := [.int (0), .ref (g.2.2 (123))]) X TX hst Y (c_X10_usedShare σ hq1) cb_L_69 rfl hl.1 rfl rfl (Nat.le_of_ble_eq_true rfl) ⟨(Nat.le_of_ble_eq_true rfl), (Nat.le_of_ble_eq_true rfl)⟩ ⟨(Nat.le_of_ble_eq_true rfl), (Nat.le_of_ble_eq_true rfl)⟩ (dk T_L_usedShare 3 rfl) (fun E τ ce q9 H locs e2 Y h1 h2 h3 => ?_) (fun y3 t4 H locs e2 Y => ?_)
  · subst e2; replace h := sel h
    by_cases c5 : E = "java/lang/ArithmeticException"
    · replace h := ipos c5 h; subst c5
      refine vx_catch (own := RL) (name := "java/lang/ArithmeticException") X.2.2.2.2.1 [] ⟨0, 8, 11, 73⟩ [] (hTab.trans rfl) (fun _ hz => absurd hz List.not_mem_nil) rfl (by decide) (X.2.2.2.2.2.1 _ (mw 33 7 rfl rfl)) (va_Nw.use rfl (TX.2.2.2.1 _ (by decide))) h1 h2 h3 ?_
      refine lv_astore_n (lv' := [(2, .ref (q9)), (0, .ref (g.2.2 (0))), (1, .ref (g.2.2 (123)))]) X.1 X.2.1 (dk T_L_usedShare 7 rfl) rfl hl (Nat.le_of_ble_eq_true rfl) rfl (fun ls hl => ?_)
      refine lv_iconst (v := 1) X.1 X.2.1 (dk T_L_usedShare 8 rfl) ic_1 ?_
      exact KR 1 τ _ _ _ _ _ _ (Option.some.inj h).symm (Nat.le_of_ble_eq_true rfl) (Nat.le_of_ble_eq_true rfl) Y (dk T_L_usedShare 9 rfl)
    replace h := ineg c5 h
    cases h
  · subst e2; replace h := ser h; try dsimp only at h
    obtain ⟨g6, h⟩ := gd h
    refine lv_f2d X.1 X.2.1 (dk T_L_usedShare 4 rfl) (nf64p g6) ?_
    obtain ⟨g7, h⟩ := gd h
    refine gds X Y (x := y3) rfl (inp g7) (dk T_L_usedShare 5 rfl) (fun H locs Y => ?_)
    refine lv_goto (tgt := 14) X.1 X.2.1 (dk T_L_usedShare 6 rfl) rfl ?_
    refine lv_iconst (v := 0) X.1 X.2.1 (dk T_L_usedShare 10 rfl) ic_0 ?_
    exact KR 0 (up t4 123 (0 : Int32).toNatClampNeg y3) _ _ _ _ _ _ (Option.some.inj h).symm (Nat.le_of_ble_eq_true rfl) (Nat.le_of_ble_eq_true rfl) Y (dk T_L_usedShare 11 rfl)
def f_L_usedShare (σ : St) : Option (Int32 × St) := f_L_usedShare_0 σ
set_option maxHeartbeats 4000000 in
set_option maxRecDepth 100000 in
theorem c_L_usedShare {l : Launch} {g : Geo} (σ : St) {w : Int32 × St} (h : f_L_usedShare σ = some w) : CtH l yL_usedShare cL_usedShare 3 (some .int) [(0, 8, 11, 73)] 7 133 1 6 g [.ref (g.2.2 (0)), .ref (g.2.2 (123))] σ w := enH .int (by decide) rfl (fun _ => rfl) (Nat.le_of_ble_eq_true rfl) (fun p e s m args below meth c Q X TX hst hTab Y ls hl KR => w_L_usedShare_0 X TX hst hTab σ KR Y hl h)
def I_L_count : List (Nat × Instr × Nat) := [(0, .aload_n 2, 1), (1, .iconst 0, 1), (2, .aload_n 0, 1), (3, .iload_n 1, 1), (4, .invokevirtual 75, 3), (7, .i2l, 1), (8, .lastore, 1), (9, .goto 6, 3), (12, .astore_n 3, 1), (13, .iconst 1, 1), (14, .ireturn, 1), (15, .iconst 0, 1), (16, .ireturn, 1)]
set_option maxRecDepth 100000 in
theorem T_L_count : ∀ q ∈ I_L_count, decode cL_count q.1 = .ok (q.2.1, q.2.2) := by decide +kernel
def f_L_count_0 (x1 : Int32) (σ : St) : Option (Int32 × St) :=
  (f_X10_count x1 σ).bind fun q1 => Sum.elim (fun x => if x.1 = "java/lang/IllegalArgumentException" then some (1, x.2) else none) (fun q1 => chk (inb 0 1) (some (0, up q1.2 122 (0 : Int32).toNatClampNeg q1.1))) q1
set_option maxHeartbeats 4000000 in
set_option maxRecDepth 100000 in
theorem w_L_count_0 (X : Cx g RL cL_count 4 (some .int) p s m args meth c) (TX : TXs g (GA g s.heap.size) s s.heap) (hst : l.stackTraces = false) (hTab : c.exceptionTable.toList = tableOf [(0, 9, 12, 13)]) (x1 : Int32) (σ : St) {w : Int32 × St} (KR : ∀ (v : Int32) (τ : St) (H : Heap) (locs : List Loc) (ls : Array Slot) (pc k n : Nat), w = (v, τ) → k ≤ 1 → n ≤ 6 → Wd g s τ H locs → decode cL_count pc = .ok (.ireturn, 1) → W p l e (rmT 7 117 1 6) s m args below meth c H locs k n Q (F0 m pc ls [.int v])) {H : Heap} {locs : List Loc} {ls : Array Slot} (Y : Wd g s σ H locs) (hl : lv_has ls 4 [(0, .ref (g.2.2 (0))), (1, .int (x1)), (2, .ref (g.2.2 (122)))]) (h : f_L_count_0 x1 σ = some w) : W p l e (rmT 7 117 1 6) s m args below meth c H locs 0 0 Q (F0 m 0 ls []) := by
  unfold f_L_count_0 at h
  refine lv_aload_n X.1 X.2.1 (dk T_L_count 0 rfl) rfl (lv_at hl 2 rfl) ?_
  refine lv_iconst (v := 0) X.1 X.2.1 (dk T_L_count 1 rfl) ic_0 ?_
  refine lv_aload_n X.1 X.2.1 (dk T_L_count 2 rfl) rfl (lv_at hl 0 rfl) ?_
  refine lv_iload_n X.1 X.2.1 (dk T_L_count 3 rfl) rfl (lv_at hl 1 rfl) ?_
  obtain ⟨q1, hq1, h⟩ := bs h
  refine gvT (rest := [.int (0), .ref (g.2.2 (122))]) X TX hst Y (c_X10_count x1 σ hq1) cb_L_75 rfl hl.1 rfl rfl (Nat.le_of_ble_eq_true rfl) ⟨(Nat.le_of_ble_eq_true rfl), (Nat.le_of_ble_eq_true rfl)⟩ ⟨(Nat.le_of_ble_eq_true rfl), (Nat.le_of_ble_eq_true rfl)⟩ (dk T_L_count 4 rfl) (fun E τ ce q9 H locs e2 Y h1 h2 h3 => ?_) (fun y3 t4 H locs e2 Y => ?_)
  · subst e2; replace h := sel h
    by_cases c5 : E = "java/lang/IllegalArgumentException"
    · replace h := ipos c5 h; subst c5
      refine vx_catch (own := RL) (name := "java/lang/IllegalArgumentException") X.2.2.2.2.1 [] ⟨0, 9, 12, 13⟩ [] (hTab.trans rfl) (fun _ hz => absurd hz List.not_mem_nil) rfl (by decide) (X.2.2.2.2.2.1 _ (mw 5 4 rfl rfl)) (va_Nw.use rfl (TX.2.2.2.1 _ (by decide))) h1 h2 h3 ?_
      refine lv_astore_n (lv' := [(3, .ref (q9)), (0, .ref (g.2.2 (0))), (1, .int (x1)), (2, .ref (g.2.2 (122)))]) X.1 X.2.1 (dk T_L_count 8 rfl) rfl hl (Nat.le_of_ble_eq_true rfl) rfl (fun ls hl => ?_)
      refine lv_iconst (v := 1) X.1 X.2.1 (dk T_L_count 9 rfl) ic_1 ?_
      exact KR 1 τ _ _ _ _ _ _ (Option.some.inj h).symm (Nat.le_of_ble_eq_true rfl) (Nat.le_of_ble_eq_true rfl) Y (dk T_L_count 10 rfl)
    replace h := ineg c5 h
    cases h
  · subst e2; replace h := ser h; try dsimp only at h
    refine lv_i2l X.1 X.2.1 (dk T_L_count 5 rfl) rfl ?_
    obtain ⟨g6, h⟩ := gd h
    refine gls X Y (x := y3) rfl (inp g6) (dk T_L_count 6 rfl) (fun H locs Y => ?_)
    refine lv_goto (tgt := 15) X.1 X.2.1 (dk T_L_count 7 rfl) rfl ?_
    refine lv_iconst (v := 0) X.1 X.2.1 (dk T_L_count 11 rfl) ic_0 ?_
    exact KR 0 (up t4 122 (0 : Int32).toNatClampNeg y3) _ _ _ _ _ _ (Option.some.inj h).symm (Nat.le_of_ble_eq_true rfl) (Nat.le_of_ble_eq_true rfl) Y (dk T_L_count 12 rfl)
def f_L_count (x1 : Int32) (σ : St) : Option (Int32 × St) := f_L_count_0 x1 σ
set_option maxHeartbeats 4000000 in
set_option maxRecDepth 100000 in
theorem c_L_count {l : Launch} {g : Geo} (x1 : Int32) (σ : St) {w : Int32 × St} (h : f_L_count x1 σ = some w) : CtH l yL_count cL_count 4 (some .int) [(0, 9, 12, 13)] 7 117 1 6 g [.ref (g.2.2 (0)), .int (x1), .ref (g.2.2 (122))] σ w := enH .int (by decide) rfl (fun _ => rfl) (Nat.le_of_ble_eq_true rfl) (fun p e s m args below meth c Q X TX hst hTab Y ls hl KR => w_L_count_0 X TX hst hTab x1 σ KR Y hl h)
def I_L_feed : List (Nat × Instr × Nat) := [(0, .aload_n 2, 1), (1, .iconst 0, 1), (2, .aload_n 0, 1), (3, .iload_n 1, 1), (4, .invokevirtual 78, 3), (7, .i2l, 1), (8, .lastore, 1), (9, .goto 6, 3), (12, .astore_n 3, 1), (13, .iconst 1, 1), (14, .ireturn, 1), (15, .iconst 0, 1), (16, .ireturn, 1)]
set_option maxRecDepth 100000 in
theorem T_L_feed : ∀ q ∈ I_L_feed, decode cL_feed q.1 = .ok (q.2.1, q.2.2) := by decide +kernel
def f_L_feed_0 (x1 : Int32) (σ : St) : Option (Int32 × St) :=
  (f_X10_feed x1 σ).bind fun q1 => Sum.elim (fun x => if x.1 = "java/lang/IllegalStateException" then some (1, x.2) else none) (fun q1 => chk (inb 0 1) (some (0, up q1.2 122 (0 : Int32).toNatClampNeg q1.1))) q1
set_option maxHeartbeats 4000000 in
set_option maxRecDepth 100000 in
theorem w_L_feed_0 (X : Cx g RL cL_feed 4 (some .int) p s m args meth c) (TX : TXs g (GA g s.heap.size) s s.heap) (hst : l.stackTraces = false) (hTab : c.exceptionTable.toList = tableOf [(0, 9, 12, 15)]) (x1 : Int32) (σ : St) {w : Int32 × St} (KR : ∀ (v : Int32) (τ : St) (H : Heap) (locs : List Loc) (ls : Array Slot) (pc k n : Nat), w = (v, τ) → k ≤ 1 → n ≤ 6 → Wd g s τ H locs → decode cL_feed pc = .ok (.ireturn, 1) → W p l e (rmT 7 111 1 6) s m args below meth c H locs k n Q (F0 m pc ls [.int v])) {H : Heap} {locs : List Loc} {ls : Array Slot} (Y : Wd g s σ H locs) (hl : lv_has ls 4 [(0, .ref (g.2.2 (0))), (1, .int (x1)), (2, .ref (g.2.2 (122)))]) (h : f_L_feed_0 x1 σ = some w) : W p l e (rmT 7 111 1 6) s m args below meth c H locs 0 0 Q (F0 m 0 ls []) := by
  unfold f_L_feed_0 at h
  refine lv_aload_n X.1 X.2.1 (dk T_L_feed 0 rfl) rfl (lv_at hl 2 rfl) ?_
  refine lv_iconst (v := 0) X.1 X.2.1 (dk T_L_feed 1 rfl) ic_0 ?_
  refine lv_aload_n X.1 X.2.1 (dk T_L_feed 2 rfl) rfl (lv_at hl 0 rfl) ?_
  refine lv_iload_n X.1 X.2.1 (dk T_L_feed 3 rfl) rfl (lv_at hl 1 rfl) ?_
  obtain ⟨q1, hq1, h⟩ := bs h
  refine gvT (rest := [.int (0), .ref (g.2.2 (122))]) X TX hst Y (c_X10_feed x1 σ hq1) cb_L_78 rfl hl.1 rfl rfl (Nat.le_of_ble_eq_true rfl) ⟨(Nat.le_of_ble_eq_true rfl), (Nat.le_of_ble_eq_true rfl)⟩ ⟨(Nat.le_of_ble_eq_true rfl), (Nat.le_of_ble_eq_true rfl)⟩ (dk T_L_feed 4 rfl) (fun E τ ce q9 H locs e2 Y h1 h2 h3 => ?_) (fun y3 t4 H locs e2 Y => ?_)
  · subst e2; replace h := sel h
    by_cases c5 : E = "java/lang/IllegalStateException"
    · replace h := ipos c5 h; subst c5
      refine vx_catch (own := RL) (name := "java/lang/IllegalStateException") X.2.2.2.2.1 [] ⟨0, 9, 12, 15⟩ [] (hTab.trans rfl) (fun _ hz => absurd hz List.not_mem_nil) rfl (by decide) (X.2.2.2.2.2.1 _ (mw 5 5 rfl rfl)) (va_Nw.use rfl (TX.2.2.2.1 _ (by decide))) h1 h2 h3 ?_
      refine lv_astore_n (lv' := [(3, .ref (q9)), (0, .ref (g.2.2 (0))), (1, .int (x1)), (2, .ref (g.2.2 (122)))]) X.1 X.2.1 (dk T_L_feed 8 rfl) rfl hl (Nat.le_of_ble_eq_true rfl) rfl (fun ls hl => ?_)
      refine lv_iconst (v := 1) X.1 X.2.1 (dk T_L_feed 9 rfl) ic_1 ?_
      exact KR 1 τ _ _ _ _ _ _ (Option.some.inj h).symm (Nat.le_of_ble_eq_true rfl) (Nat.le_of_ble_eq_true rfl) Y (dk T_L_feed 10 rfl)
    replace h := ineg c5 h
    cases h
  · subst e2; replace h := ser h; try dsimp only at h
    refine lv_i2l X.1 X.2.1 (dk T_L_feed 5 rfl) rfl ?_
    obtain ⟨g6, h⟩ := gd h
    refine gls X Y (x := y3) rfl (inp g6) (dk T_L_feed 6 rfl) (fun H locs Y => ?_)
    refine lv_goto (tgt := 15) X.1 X.2.1 (dk T_L_feed 7 rfl) rfl ?_
    refine lv_iconst (v := 0) X.1 X.2.1 (dk T_L_feed 11 rfl) ic_0 ?_
    exact KR 0 (up t4 122 (0 : Int32).toNatClampNeg y3) _ _ _ _ _ _ (Option.some.inj h).symm (Nat.le_of_ble_eq_true rfl) (Nat.le_of_ble_eq_true rfl) Y (dk T_L_feed 12 rfl)
def f_L_feed (x1 : Int32) (σ : St) : Option (Int32 × St) := f_L_feed_0 x1 σ
set_option maxHeartbeats 4000000 in
set_option maxRecDepth 100000 in
theorem c_L_feed {l : Launch} {g : Geo} (x1 : Int32) (σ : St) {w : Int32 × St} (h : f_L_feed x1 σ = some w) : CtH l yL_feed cL_feed 4 (some .int) [(0, 9, 12, 15)] 7 111 1 6 g [.ref (g.2.2 (0)), .int (x1), .ref (g.2.2 (122))] σ w := enH .int (by decide) rfl (fun _ => rfl) (Nat.le_of_ble_eq_true rfl) (fun p e s m args below meth c Q X TX hst hTab Y ls hl KR => w_L_feed_0 X TX hst hTab x1 σ KR Y hl h)
def I_L_fault : List (Nat × Instr × Nat) := [(0, .aload_n 3, 1), (1, .iconst 0, 1), (2, .aload_n 0, 1), (3, .iload_n 1, 1), (4, .iload_n 2, 1), (5, .invokevirtual 82, 3), (8, .i2l, 1), (9, .lastore, 1), (10, .goto 7, 3), (13, .astore 4, 2), (15, .iconst 1, 1), (16, .ireturn, 1), (17, .iconst 0, 1), (18, .ireturn, 1)]
set_option maxRecDepth 100000 in
theorem T_L_fault : ∀ q ∈ I_L_fault, decode cL_fault q.1 = .ok (q.2.1, q.2.2) := by decide +kernel
def f_L_fault_0 (x1 : Int32) (x2 : Int32) (σ : St) : Option (Int32 × St) :=
  (f_X10_fault x1 x2 σ).bind fun q1 => Sum.elim (fun x => if x.1 = "java/util/NoSuchElementException" then some (1, x.2) else none) (fun q1 => chk (inb 0 1) (some (0, up q1.2 122 (0 : Int32).toNatClampNeg q1.1))) q1
set_option maxHeartbeats 4000000 in
set_option maxRecDepth 100000 in
theorem w_L_fault_0 (X : Cx g RL cL_fault 5 (some .int) p s m args meth c) (TX : TXs g (GA g s.heap.size) s s.heap) (hst : l.stackTraces = false) (hTab : c.exceptionTable.toList = tableOf [(0, 10, 13, 55)]) (x1 : Int32) (x2 : Int32) (σ : St) {w : Int32 × St} (KR : ∀ (v : Int32) (τ : St) (H : Heap) (locs : List Loc) (ls : Array Slot) (pc k n : Nat), w = (v, τ) → k ≤ 1 → n ≤ 6 → Wd g s τ H locs → decode cL_fault pc = .ok (.ireturn, 1) → W p l e (rmT 8 134 1 6) s m args below meth c H locs k n Q (F0 m pc ls [.int v])) {H : Heap} {locs : List Loc} {ls : Array Slot} (Y : Wd g s σ H locs) (hl : lv_has ls 5 [(0, .ref (g.2.2 (0))), (1, .int (x1)), (2, .int (x2)), (3, .ref (g.2.2 (122)))]) (h : f_L_fault_0 x1 x2 σ = some w) : W p l e (rmT 8 134 1 6) s m args below meth c H locs 0 0 Q (F0 m 0 ls []) := by
  unfold f_L_fault_0 at h
  refine lv_aload_n X.1 X.2.1 (dk T_L_fault 0 rfl) rfl (lv_at hl 3 rfl) ?_
  refine lv_iconst (v := 0) X.1 X.2.1 (dk T_L_fault 1 rfl) ic_0 ?_
  refine lv_aload_n X.1 X.2.1 (dk T_L_fault 2 rfl) rfl (lv_at hl 0 rfl) ?_
  refine lv_iload_n X.1 X.2.1 (dk T_L_fault 3 rfl) rfl (lv_at hl 1 rfl) ?_
  refine lv_iload_n X.1 X.2.1 (dk T_L_fault 4 rfl) rfl (lv_at hl 2 rfl) ?_
  obtain ⟨q1, hq1, h⟩ := bs h
  refine gvT (rest := [.int (0), .ref (g.2.2 (122))]) X TX hst Y (c_X10_fault x1 x2 σ hq1) cb_L_82 rfl hl.1 rfl rfl (Nat.le_of_ble_eq_true rfl) ⟨(Nat.le_of_ble_eq_true rfl), (Nat.le_of_ble_eq_true rfl)⟩ ⟨(Nat.le_of_ble_eq_true rfl), (Nat.le_of_ble_eq_true rfl)⟩ (dk T_L_fault 5 rfl) (fun E τ ce q9 H locs e2 Y h1 h2 h3 => ?_) (fun y3 t4 H locs e2 Y => ?_)
  · subst e2; replace h := sel h
    by_cases c5 : E = "java/util/NoSuchElementException"
    · replace h := ipos c5 h; subst c5
      refine vx_catch (own := RL) (name := "java/util/NoSuchElementException") X.2.2.2.2.1 [] ⟨0, 10, 13, 55⟩ [] (hTab.trans rfl) (fun _ hz => absurd hz List.not_mem_nil) rfl (by decide) (X.2.2.2.2.2.1 _ (mw 24 22 rfl rfl)) (va_Nw.use rfl (TX.2.2.2.1 _ (by decide))) h1 h2 h3 ?_
      refine lv_astore (lv' := [(4, .ref (q9)), (0, .ref (g.2.2 (0))), (1, .int (x1)), (2, .int (x2)), (3, .ref (g.2.2 (122)))]) X.1 X.2.1 (dk T_L_fault 9 rfl) hl (Nat.le_of_ble_eq_true rfl) rfl (fun ls hl => ?_)
      refine lv_iconst (v := 1) X.1 X.2.1 (dk T_L_fault 10 rfl) ic_1 ?_
      exact KR 1 τ _ _ _ _ _ _ (Option.some.inj h).symm (Nat.le_of_ble_eq_true rfl) (Nat.le_of_ble_eq_true rfl) Y (dk T_L_fault 11 rfl)
    replace h := ineg c5 h
    cases h
  · subst e2; replace h := ser h; try dsimp only at h
    refine lv_i2l X.1 X.2.1 (dk T_L_fault 6 rfl) rfl ?_
    obtain ⟨g6, h⟩ := gd h
    refine gls X Y (x := y3) rfl (inp g6) (dk T_L_fault 7 rfl) (fun H locs Y => ?_)
    refine lv_goto (tgt := 17) X.1 X.2.1 (dk T_L_fault 8 rfl) rfl ?_
    refine lv_iconst (v := 0) X.1 X.2.1 (dk T_L_fault 12 rfl) ic_0 ?_
    exact KR 0 (up t4 122 (0 : Int32).toNatClampNeg y3) _ _ _ _ _ _ (Option.some.inj h).symm (Nat.le_of_ble_eq_true rfl) (Nat.le_of_ble_eq_true rfl) Y (dk T_L_fault 13 rfl)
def f_L_fault (x1 : Int32) (x2 : Int32) (σ : St) : Option (Int32 × St) := f_L_fault_0 x1 x2 σ
set_option maxHeartbeats 4000000 in
set_option maxRecDepth 100000 in
theorem c_L_fault {l : Launch} {g : Geo} (x1 : Int32) (x2 : Int32) (σ : St) {w : Int32 × St} (h : f_L_fault x1 x2 σ = some w) : CtH l yL_fault cL_fault 5 (some .int) [(0, 10, 13, 55)] 8 134 1 6 g [.ref (g.2.2 (0)), .int (x1), .int (x2), .ref (g.2.2 (122))] σ w := enH .int (by decide) rfl (fun _ => rfl) (Nat.le_of_ble_eq_true rfl) (fun p e s m args below meth c Q X TX hst hTab Y ls hl KR => w_L_fault_0 X TX hst hTab x1 x2 σ KR Y hl h)
def I_L_undo : List (Nat × Instr × Nat) := [(0, .aload_n 1, 1), (1, .iconst 0, 1), (2, .aload_n 0, 1), (3, .invokevirtual 85, 3), (6, .i2l, 1), (7, .lastore, 1), (8, .goto 6, 3), (11, .astore_n 2, 1), (12, .iconst 1, 1), (13, .ireturn, 1), (14, .iconst 0, 1), (15, .ireturn, 1)]
set_option maxRecDepth 100000 in
theorem T_L_undo : ∀ q ∈ I_L_undo, decode cL_undo q.1 = .ok (q.2.1, q.2.2) := by decide +kernel
def f_L_undo_0 (σ : St) : Option (Int32 × St) :=
  (f_X10_undo σ).bind fun q1 => Sum.elim (fun x => if x.1 = "java/lang/IllegalStateException" then some (1, x.2) else none) (fun q1 => chk (inb 0 1) (some (0, up q1.2 122 (0 : Int32).toNatClampNeg q1.1))) q1
set_option maxHeartbeats 4000000 in
set_option maxRecDepth 100000 in
theorem w_L_undo_0 (X : Cx g RL cL_undo 3 (some .int) p s m args meth c) (TX : TXs g (GA g s.heap.size) s s.heap) (hst : l.stackTraces = false) (hTab : c.exceptionTable.toList = tableOf [(0, 8, 11, 15)]) (σ : St) {w : Int32 × St} (KR : ∀ (v : Int32) (τ : St) (H : Heap) (locs : List Loc) (ls : Array Slot) (pc k n : Nat), w = (v, τ) → k ≤ 1 → n ≤ 6 → Wd g s τ H locs → decode cL_undo pc = .ok (.ireturn, 1) → W p l e (rmT 7 125 1 6) s m args below meth c H locs k n Q (F0 m pc ls [.int v])) {H : Heap} {locs : List Loc} {ls : Array Slot} (Y : Wd g s σ H locs) (hl : lv_has ls 3 [(0, .ref (g.2.2 (0))), (1, .ref (g.2.2 (122)))]) (h : f_L_undo_0 σ = some w) : W p l e (rmT 7 125 1 6) s m args below meth c H locs 0 0 Q (F0 m 0 ls []) := by
  unfold f_L_undo_0 at h
  refine lv_aload_n X.1 X.2.1 (dk T_L_undo 0 rfl) rfl (lv_at hl 1 rfl) ?_
  refine lv_iconst (v := 0) X.1 X.2.1 (dk T_L_undo 1 rfl) ic_0 ?_
  refine lv_aload_n X.1 X.2.1 (dk T_L_undo 2 rfl) rfl (lv_at hl 0 rfl) ?_
  obtain ⟨q1, hq1, h⟩ := bs h
  refine gvT (rest := [.int (0), .ref (g.2.2 (122))]) X TX hst Y (c_X10_undo σ hq1) cb_L_85 rfl hl.1 rfl rfl (Nat.le_of_ble_eq_true rfl) ⟨(Nat.le_of_ble_eq_true rfl), (Nat.le_of_ble_eq_true rfl)⟩ ⟨(Nat.le_of_ble_eq_true rfl), (Nat.le_of_ble_eq_true rfl)⟩ (dk T_L_undo 3 rfl) (fun E τ ce q9 H locs e2 Y h1 h2 h3 => ?_) (fun y3 t4 H locs e2 Y => ?_)
  · subst e2; replace h := sel h
    by_cases c5 : E = "java/lang/IllegalStateException"
    · replace h := ipos c5 h; subst c5
      refine vx_catch (own := RL) (name := "java/lang/IllegalStateException") X.2.2.2.2.1 [] ⟨0, 8, 11, 15⟩ [] (hTab.trans rfl) (fun _ hz => absurd hz List.not_mem_nil) rfl (by decide) (X.2.2.2.2.2.1 _ (mw 5 5 rfl rfl)) (va_Nw.use rfl (TX.2.2.2.1 _ (by decide))) h1 h2 h3 ?_
      refine lv_astore_n (lv' := [(2, .ref (q9)), (0, .ref (g.2.2 (0))), (1, .ref (g.2.2 (122)))]) X.1 X.2.1 (dk T_L_undo 7 rfl) rfl hl (Nat.le_of_ble_eq_true rfl) rfl (fun ls hl => ?_)
      refine lv_iconst (v := 1) X.1 X.2.1 (dk T_L_undo 8 rfl) ic_1 ?_
      exact KR 1 τ _ _ _ _ _ _ (Option.some.inj h).symm (Nat.le_of_ble_eq_true rfl) (Nat.le_of_ble_eq_true rfl) Y (dk T_L_undo 9 rfl)
    replace h := ineg c5 h
    cases h
  · subst e2; replace h := ser h; try dsimp only at h
    refine lv_i2l X.1 X.2.1 (dk T_L_undo 4 rfl) rfl ?_
    obtain ⟨g6, h⟩ := gd h
    refine gls X Y (x := y3) rfl (inp g6) (dk T_L_undo 5 rfl) (fun H locs Y => ?_)
    refine lv_goto (tgt := 14) X.1 X.2.1 (dk T_L_undo 6 rfl) rfl ?_
    refine lv_iconst (v := 0) X.1 X.2.1 (dk T_L_undo 10 rfl) ic_0 ?_
    exact KR 0 (up t4 122 (0 : Int32).toNatClampNeg y3) _ _ _ _ _ _ (Option.some.inj h).symm (Nat.le_of_ble_eq_true rfl) (Nat.le_of_ble_eq_true rfl) Y (dk T_L_undo 11 rfl)
def f_L_undo (σ : St) : Option (Int32 × St) := f_L_undo_0 σ
set_option maxHeartbeats 4000000 in
set_option maxRecDepth 100000 in
theorem c_L_undo {l : Launch} {g : Geo} (σ : St) {w : Int32 × St} (h : f_L_undo σ = some w) : CtH l yL_undo cL_undo 3 (some .int) [(0, 8, 11, 15)] 7 125 1 6 g [.ref (g.2.2 (0)), .ref (g.2.2 (122))] σ w := enH .int (by decide) rfl (fun _ => rfl) (Nat.le_of_ble_eq_true rfl) (fun p e s m args below meth c Q X TX hst hTab Y ls hl KR => w_L_undo_0 X TX hst hTab σ KR Y hl h)
def I_L_restoreSnapshot : List (Nat × Instr × Nat) := [(0, .aload_n 1, 1), (1, .iconst 0, 1), (2, .aload_n 0, 1), (3, .invokevirtual 89, 3), (6, .i2l, 1), (7, .lastore, 1), (8, .goto 6, 3), (11, .astore_n 2, 1), (12, .iconst 1, 1), (13, .ireturn, 1), (14, .iconst 0, 1), (15, .ireturn, 1)]
set_option maxRecDepth 100000 in
theorem T_L_restoreSnapshot : ∀ q ∈ I_L_restoreSnapshot, decode cL_restoreSnapshot q.1 = .ok (q.2.1, q.2.2) := by decide +kernel
def f_L_restoreSnapshot_0 (σ : St) : Option (Int32 × St) :=
  (f_X10_restoreSnapshot σ).bind fun q1 => Sum.elim (fun x => if x.1 = "java/lang/IllegalStateException" then some (1, x.2) else none) (fun q1 => chk (inb 0 1) (some (0, up q1.2 122 (0 : Int32).toNatClampNeg q1.1))) q1
set_option maxHeartbeats 4000000 in
set_option maxRecDepth 100000 in
theorem w_L_restoreSnapshot_0 (X : Cx g RL cL_restoreSnapshot 3 (some .int) p s m args meth c) (TX : TXs g (GA g s.heap.size) s s.heap) (hst : l.stackTraces = false) (hTab : c.exceptionTable.toList = tableOf [(0, 8, 11, 15)]) (σ : St) {w : Int32 × St} (KR : ∀ (v : Int32) (τ : St) (H : Heap) (locs : List Loc) (ls : Array Slot) (pc k n : Nat), w = (v, τ) → k ≤ 1 → n ≤ 6 → Wd g s τ H locs → decode cL_restoreSnapshot pc = .ok (.ireturn, 1) → W p l e (rmT 7 110 1 6) s m args below meth c H locs k n Q (F0 m pc ls [.int v])) {H : Heap} {locs : List Loc} {ls : Array Slot} (Y : Wd g s σ H locs) (hl : lv_has ls 3 [(0, .ref (g.2.2 (0))), (1, .ref (g.2.2 (122)))]) (h : f_L_restoreSnapshot_0 σ = some w) : W p l e (rmT 7 110 1 6) s m args below meth c H locs 0 0 Q (F0 m 0 ls []) := by
  unfold f_L_restoreSnapshot_0 at h
  refine lv_aload_n X.1 X.2.1 (dk T_L_restoreSnapshot 0 rfl) rfl (lv_at hl 1 rfl) ?_
  refine lv_iconst (v := 0) X.1 X.2.1 (dk T_L_restoreSnapshot 1 rfl) ic_0 ?_
  refine lv_aload_n X.1 X.2.1 (dk T_L_restoreSnapshot 2 rfl) rfl (lv_at hl 0 rfl) ?_
  obtain ⟨q1, hq1, h⟩ := bs h
  refine gvT (rest := [.int (0), .ref (g.2.2 (122))]) X TX hst Y (c_X10_restoreSnapshot σ hq1) cb_L_89 rfl hl.1 rfl rfl (Nat.le_of_ble_eq_true rfl) ⟨(Nat.le_of_ble_eq_true rfl), (Nat.le_of_ble_eq_true rfl)⟩ ⟨(Nat.le_of_ble_eq_true rfl), (Nat.le_of_ble_eq_true rfl)⟩ (dk T_L_restoreSnapshot 3 rfl) (fun E τ ce q9 H locs e2 Y h1 h2 h3 => ?_) (fun y3 t4 H locs e2 Y => ?_)
  · subst e2; replace h := sel h
    by_cases c5 : E = "java/lang/IllegalStateException"
    · replace h := ipos c5 h; subst c5
      refine vx_catch (own := RL) (name := "java/lang/IllegalStateException") X.2.2.2.2.1 [] ⟨0, 8, 11, 15⟩ [] (hTab.trans rfl) (fun _ hz => absurd hz List.not_mem_nil) rfl (by decide) (X.2.2.2.2.2.1 _ (mw 5 5 rfl rfl)) (va_Nw.use rfl (TX.2.2.2.1 _ (by decide))) h1 h2 h3 ?_
      refine lv_astore_n (lv' := [(2, .ref (q9)), (0, .ref (g.2.2 (0))), (1, .ref (g.2.2 (122)))]) X.1 X.2.1 (dk T_L_restoreSnapshot 7 rfl) rfl hl (Nat.le_of_ble_eq_true rfl) rfl (fun ls hl => ?_)
      refine lv_iconst (v := 1) X.1 X.2.1 (dk T_L_restoreSnapshot 8 rfl) ic_1 ?_
      exact KR 1 τ _ _ _ _ _ _ (Option.some.inj h).symm (Nat.le_of_ble_eq_true rfl) (Nat.le_of_ble_eq_true rfl) Y (dk T_L_restoreSnapshot 9 rfl)
    replace h := ineg c5 h
    cases h
  · subst e2; replace h := ser h; try dsimp only at h
    refine lv_i2l X.1 X.2.1 (dk T_L_restoreSnapshot 4 rfl) rfl ?_
    obtain ⟨g6, h⟩ := gd h
    refine gls X Y (x := y3) rfl (inp g6) (dk T_L_restoreSnapshot 5 rfl) (fun H locs Y => ?_)
    refine lv_goto (tgt := 14) X.1 X.2.1 (dk T_L_restoreSnapshot 6 rfl) rfl ?_
    refine lv_iconst (v := 0) X.1 X.2.1 (dk T_L_restoreSnapshot 10 rfl) ic_0 ?_
    exact KR 0 (up t4 122 (0 : Int32).toNatClampNeg y3) _ _ _ _ _ _ (Option.some.inj h).symm (Nat.le_of_ble_eq_true rfl) (Nat.le_of_ble_eq_true rfl) Y (dk T_L_restoreSnapshot 11 rfl)
def f_L_restoreSnapshot (σ : St) : Option (Int32 × St) := f_L_restoreSnapshot_0 σ
set_option maxHeartbeats 4000000 in
set_option maxRecDepth 100000 in
theorem c_L_restoreSnapshot {l : Launch} {g : Geo} (σ : St) {w : Int32 × St} (h : f_L_restoreSnapshot σ = some w) : CtH l yL_restoreSnapshot cL_restoreSnapshot 3 (some .int) [(0, 8, 11, 15)] 7 110 1 6 g [.ref (g.2.2 (0)), .ref (g.2.2 (122))] σ w := enH .int (by decide) rfl (fun _ => rfl) (Nat.le_of_ble_eq_true rfl) (fun p e s m args below meth c Q X TX hst hTab Y ls hl KR => w_L_restoreSnapshot_0 X TX hst hTab σ KR Y hl h)
end
