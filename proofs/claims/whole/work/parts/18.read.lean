theorem cb_X10_108 : CBV RX10 108 yX2_push cX2_push 3 none 1 4 := ⟨⟨mw 5 24 rfl rfl, mw 0 22 rfl rfl, mw 5 27 rfl rfl, by decide, by decide, by decide +kernel⟩, mw 5 25 rfl rfl, mw 5 26 rfl rfl, TX2, 3, tyX2, cl_X2⟩
theorem cb_X10_303 : CBV RX10 303 yX6_countItems cX6_countItems 1 (some .int) 0 7 := ⟨⟨mw 35 5 rfl rfl, mw 1 15 rfl rfl, mw 35 8 rfl rfl, by decide, by decide, by decide +kernel⟩, mw 35 6 rfl rfl, mw 35 7 rfl rfl, TX6, 15, tyX6, cl_X6⟩
theorem cb_X10_306 : CBV RX10 306 yX10_carryOutItems cX10_carryOutItems 4 (some .boolean) 1 11 := ⟨⟨mw 37 2 rfl rfl, mw 0 2 rfl rfl, mw 37 5 rfl rfl, by decide, by decide, by decide +kernel⟩, mw 37 3 rfl rfl, mw 37 4 rfl rfl, TX10, 12, tyX10, cl_X10⟩
theorem cb_X10_309 : CBV RX10 309 yX10_refuseText cX10_refuseText 1 (some .boolean) 0 11 := ⟨⟨mw 38 16 rfl rfl, mw 0 2 rfl rfl, mw 38 19 rfl rfl, by decide, by decide, by decide +kernel⟩, mw 38 17 rfl rfl, mw 38 18 rfl rfl, TX10, 12, tyX10, cl_X10⟩
theorem cb_X10_312 : CBV RX10 312 yX6_clear cX6_clear 1 none 0 7 := ⟨⟨mw 38 28 rfl rfl, mw 1 15 rfl rfl, mw 38 31 rfl rfl, by decide, by decide, by decide +kernel⟩, mw 38 29 rfl rfl, mw 38 30 rfl rfl, TX6, 15, tyX6, cl_X6⟩
theorem cb_X10_379 : CBV RX10 379 yX6_rewind cX6_rewind 1 none 0 7 := ⟨⟨mw 37 7 rfl rfl, mw 1 15 rfl rfl, mw 35 12 rfl rfl, by decide, by decide, by decide +kernel⟩, mw 35 10 rfl rfl, mw 35 11 rfl rfl, TX6, 15, tyX6, cl_X6⟩
theorem cb_X10_382 : CBV RX10 382 yX6_isItem cX6_isItem 1 (some .boolean) 0 7 := ⟨⟨mw 37 8 rfl rfl, mw 1 15 rfl rfl, mw 35 16 rfl rfl, by decide, by decide, by decide +kernel⟩, mw 35 14 rfl rfl, mw 35 15 rfl rfl, TX6, 15, tyX6, cl_X6⟩
theorem cb_X10_385 : CBV RX10 385 yX6_accepts cX6_accepts 2 (some .boolean) 1 7 := ⟨⟨mw 37 9 rfl rfl, mw 1 15 rfl rfl, mw 35 25 rfl rfl, by decide, by decide, by decide +kernel⟩, mw 35 23 rfl rfl, mw 35 24 rfl rfl, TX6, 15, tyX6, cl_X6⟩
theorem cb_X10_389 : CBV RX10 389 yX6_carryOut cX6_carryOut 2 (some .boolean) 1 7 := ⟨⟨mw 37 10 rfl rfl, mw 1 15 rfl rfl, mw 37 13 rfl rfl, by decide, by decide, by decide +kernel⟩, mw 37 11 rfl rfl, mw 37 12 rfl rfl, TX6, 15, tyX6, cl_X6⟩
theorem cb_X10_392 : CBV RX10 392 yX6_faultKind cX6_faultKind 1 (some .int) 0 7 := ⟨⟨mw 38 8 rfl rfl, mw 1 15 rfl rfl, mw 38 11 rfl rfl, by decide, by decide, by decide +kernel⟩, mw 38 9 rfl rfl, mw 38 10 rfl rfl, TX6, 15, tyX6, cl_X6⟩
theorem cb_X10_395 : CBV RX10 395 yX6_faultPlace cX6_faultPlace 1 (some .int) 0 7 := ⟨⟨mw 38 12 rfl rfl, mw 1 15 rfl rfl, mw 38 15 rfl rfl, by decide, by decide, by decide +kernel⟩, mw 38 13 rfl rfl, mw 38 14 rfl rfl, TX6, 15, tyX6, cl_X6⟩
section
variable {p : Program} {l : Launch} {e : Env} {s : State} {m : MethodId} {args : Array Value} {below : List Frame} {meth : Method} {c : Code} {Q : State → Prop} {g : Geo}
def I_X10_carryOutItems : List (Nat × Instr × Nat) := [(0, .aload_n 0, 1), (1, .getfield 16, 3), (4, .aload_n 0, 1), (5, .getfield 12, 3), (8, .invokevirtual 318, 3), (11, .aload_n 0, 1), (12, .getfield 70, 3), (15, .invokevirtual 379, 3), (18, .iconst 0, 1), (19, .istore_n 2, 1), (20, .iload_n 2, 1), (21, .iload_n 1, 1), (22, .if_icmp .ge 115, 3), (25, .aload_n 0, 1), (26, .getfield 70, 3), (29, .invokevirtual 382, 3), (32, .pop, 1), (33, .aload_n 0, 1), (34, .getfield 70, 3), (37, .bipush 59, 2), (39, .invokevirtual 385, 3), (42, .pop, 1), (43, .aload_n 0, 1), (44, .getfield 12, 3), (47, .getfield 93, 3), (50, .invokevirtual 209, 3), (53, .aload_n 0, 1), (54, .getfield 12, 3), (57, .getfield 123, 3), (60, .invokevirtual 209, 3), (63, .iadd, 1), (64, .istore_n 3, 1), (65, .aload_n 0, 1), (66, .getfield 70, 3), (69, .aload_n 0, 1), (70, .getfield 12, 3), (73, .invokevirtual 389, 3), (76, .ifCond .ne 55, 3), (79, .aload_n 0, 1), (80, .getfield 36, 3), (83, .iconst 1, 1), (84, .iload_n 2, 1), (85, .invokevirtual 370, 3), (88, .aload_n 0, 1), (89, .getfield 36, 3), (92, .iconst 3, 1), (93, .iload_n 3, 1), (94, .invokevirtual 370, 3), (97, .aload_n 0, 1), (98, .getfield 36, 3), (101, .aload_n 0, 1), (102, .getfield 70, 3), (105, .invokevirtual 392, 3), (108, .aload_n 0, 1), (109, .getfield 70, 3), (112, .invokevirtual 395, 3), (115, .invokevirtual 370, 3), (118, .aload_n 0, 1), (119, .getfield 12, 3), (122, .aload_n 0, 1), (123, .getfield 16, 3), (126, .invokevirtual 318, 3), (129, .iconst 0, 1), (130, .ireturn, 1), (131, .iinc 2 1, 3), (134, .goto (-114), 3), (137, .aload_n 0, 1), (138, .getfield 25, 3), (141, .aload_n 0, 1), (142, .getfield 16, 3), (145, .invokevirtual 108, 3), (148, .iconst 1, 1), (149, .ireturn, 1)]
set_option maxRecDepth 100000 in
theorem T_X10_carryOutItems : ∀ q ∈ I_X10_carryOutItems, decode cX10_carryOutItems q.1 = .ok (q.2.1, q.2.2) := by decide +kernel
def f_X10_carryOutItems_l20 (x1 : Int32) (z : Int32 × St) : Option ((Int32 × St) ⊕ ((St) ⊕ (Int32 × Int32 × St))) :=
  if x1 ≤ z.1 then some (.inr (.inl z.2)) else (f_X6_isItem z.2).bind fun q4 => (f_X6_accepts 59 q4.2).bind fun q5 => (f_X9_size 2 q5.2).bind fun q6 => (f_X9_size 4 q5.2).bind fun q7 => (f_X6_carryOut 1 q5.2).bind fun q8 => if q8.1 = 0 then some (.inr (.inr (z.1, q6 + q7, q8.2))) else some (.inl (z.1 + 1, q8.2))
set_option maxHeartbeats 4000000 in
set_option maxRecDepth 100000 in
theorem w_X10_carryOutItems_l20 (X : Cx g RX10 cX10_carryOutItems 4 (some .boolean) p s m args meth c) (x1 : Int32) (σ : St) {r : (St) ⊕ (Int32 × Int32 × St)} (KX0 : ∀ (v : St), r = (.inl v) → ∀ (H : Heap) (locs : List Loc) (ls : Array Slot), Wd g s v H locs → lv_has ls 4 [(0, .ref (g.2.2 (0)))] → W p l e (rmm 5 119) s m args below meth c H locs 0 0 Q (F0 m 137 ls [])) (KX1 : ∀ (v0_ : Int32) (v1_ : Int32) (v2_ : St), r = (.inr (v0_, v1_, v2_)) → ∀ (H : Heap) (locs : List Loc) (ls : Array Slot), Wd g s v2_ H locs → lv_has ls 4 [(0, .ref (g.2.2 (0))), (2, .int (v0_)), (3, .int (v1_))] → W p l e (rmm 5 119) s m args below meth c H locs 0 0 Q (F0 m 79 ls [])) : ∀ (n : Nat) (z : Int32 × St) {H : Heap} {locs : List Loc} {ls : Array Slot}, Wd g s z.2 H locs → lv_has ls 4 [(0, .ref (g.2.2 (0))), (1, .int (x1)), (2, .int (z.1))] → lp (f_X10_carryOutItems_l20 x1) n z = some r → W p l e (rmm 5 119) s m args below meth c H locs 0 0 Q (F0 m 20 ls []) := by
  intro n
  induction n with
  | zero => intro z H locs ls Y hl h; cases h
  | succ n ih =>
    intro z H locs ls Y hl h
    obtain ⟨w, h, hw⟩ := lps h
    have KB : ∀ (v0_ : Int32) (v1_ : St), w = .inl (v0_, v1_) → ∀ (H : Heap) (locs : List Loc) (ls : Array Slot), Wd g s v1_ H locs → lv_has ls 4 [(0, .ref (g.2.2 (0))), (1, .int (x1)), (2, .int (v0_))] → W p l e (rmm 5 119) s m args below meth c H locs 0 0 Q (F0 m 20 ls []) := fun v0_ v1_ e H locs ls Y hl => ih (v0_, v1_) Y hl (lpl hw e)
    have KX0 := fun (v : St) (e : w = .inr (.inl v)) => KX0 v (lpr hw e)
    have KX1 := fun (v0_ : Int32) (v1_ : Int32) (v2_ : St) (e : w = .inr (.inr (v0_, v1_, v2_))) => KX1 v0_ v1_ v2_ (lpr hw e)
    unfold f_X10_carryOutItems_l20 at h
    refine lv_iload_n X.1 X.2.1 (dk T_X10_carryOutItems 10 rfl) rfl (lv_at hl 2 rfl) ?_
    refine lv_iload_n X.1 X.2.1 (dk T_X10_carryOutItems 11 rfl) rfl (lv_at hl 1 rfl) ?_
    refine lv_icmp_ge (tgt := 137) X.1 X.2.1 (dk T_X10_carryOutItems 12 rfl) rfl (fun c3 => ?_) (fun c3 => ?_)
    · replace h := ipos c3 h
      exact KX0 z.2 (Option.some.inj h).symm _ _ _ Y (lv_sub hl [0] rfl)
    · replace h := ineg c3 h
      refine lv_aload_n X.1 X.2.1 (dk T_X10_carryOutItems 13 rfl) rfl (lv_at hl 0 rfl) ?_
      refine gg X Y fl_X10_70 rfl rfl (dk T_X10_carryOutItems 14 rfl) ?_
      obtain ⟨q4, hq4, h⟩ := bs h
      refine gvI (rest := []) X Y (c_X6_isItem z.2 hq4) cb_X10_382 rfl hl.1 rfl rfl (Nat.le_of_ble_eq_true rfl) ⟨Nat.le_of_ble_eq_true rfl, Nat.le_of_ble_eq_true rfl⟩ (dk T_X10_carryOutItems 15 rfl) (fun H locs Y => ?_)
      refine lv_pop X.1 X.2.1 (dk T_X10_carryOutItems 16 rfl) rfl ?_
      refine lv_aload_n X.1 X.2.1 (dk T_X10_carryOutItems 17 rfl) rfl (lv_at hl 0 rfl) ?_
      refine gg X Y fl_X10_70 rfl rfl (dk T_X10_carryOutItems 18 rfl) ?_
      refine lv_bipush (v := 59) X.1 X.2.1 (dk T_X10_carryOutItems 19 rfl) bp_59 ?_
      obtain ⟨q5, hq5, h⟩ := bs h
      refine gvI (rest := []) X Y (c_X6_accepts 59 q4.2 hq5) cb_X10_385 rfl hl.1 rfl rfl (Nat.le_of_ble_eq_true rfl) ⟨Nat.le_of_ble_eq_true rfl, Nat.le_of_ble_eq_true rfl⟩ (dk T_X10_carryOutItems 20 rfl) (fun H locs Y => ?_)
      refine lv_pop X.1 X.2.1 (dk T_X10_carryOutItems 21 rfl) rfl ?_
      refine lv_aload_n X.1 X.2.1 (dk T_X10_carryOutItems 22 rfl) rfl (lv_at hl 0 rfl) ?_
      refine gg X Y fl_X10_12 rfl rfl (dk T_X10_carryOutItems 23 rfl) ?_
      refine ggN X Y fl_X10_93 rfl rfl (dk T_X10_carryOutItems 24 rfl) ?_
      obtain ⟨q6, hq6, h⟩ := bs h
      refine gvI (rest := []) X Y (c_X9_size 2 rfl q5.2 hq6) cb_X10_209 rfl hl.1 rfl rfl (Nat.le_of_ble_eq_true rfl) ⟨Nat.le_of_ble_eq_true rfl, Nat.le_of_ble_eq_true rfl⟩ (dk T_X10_carryOutItems 25 rfl) (fun H locs Y => ?_)
      refine lv_aload_n X.1 X.2.1 (dk T_X10_carryOutItems 26 rfl) rfl (lv_at hl 0 rfl) ?_
      refine gg X Y fl_X10_12 rfl rfl (dk T_X10_carryOutItems 27 rfl) ?_
      refine ggN X Y fl_X10_123 rfl rfl (dk T_X10_carryOutItems 28 rfl) ?_
      obtain ⟨q7, hq7, h⟩ := bs h
      refine gvI (rest := [.int (q6)]) X Y (c_X9_size 4 rfl q5.2 hq7) cb_X10_209 rfl hl.1 rfl rfl (Nat.le_of_ble_eq_true rfl) ⟨Nat.le_of_ble_eq_true rfl, Nat.le_of_ble_eq_true rfl⟩ (dk T_X10_carryOutItems 29 rfl) (fun H locs Y => ?_)
      refine lv_iadd X.1 X.2.1 (dk T_X10_carryOutItems 30 rfl) ?_
      refine lv_istore_n (lv' := [(3, .int (q6 + q7)), (0, .ref (g.2.2 (0))), (1, .int (x1)), (2, .int (z.1))]) X.1 X.2.1 (dk T_X10_carryOutItems 31 rfl) rfl hl (Nat.le_of_ble_eq_true rfl) rfl (fun ls hl => ?_)
      refine lv_aload_n X.1 X.2.1 (dk T_X10_carryOutItems 32 rfl) rfl (lv_at hl 1 rfl) ?_
      refine gg X Y fl_X10_70 rfl rfl (dk T_X10_carryOutItems 33 rfl) ?_
      refine lv_aload_n X.1 X.2.1 (dk T_X10_carryOutItems 34 rfl) rfl (lv_at hl 1 rfl) ?_
      refine gg X Y fl_X10_12 rfl rfl (dk T_X10_carryOutItems 35 rfl) ?_
      obtain ⟨q8, hq8, h⟩ := bs h
      refine gvI (rest := []) X Y (c_X6_carryOut 1 rfl q5.2 hq8) cb_X10_389 rfl hl.1 rfl rfl (Nat.le_of_ble_eq_true rfl) ⟨Nat.le_of_ble_eq_true rfl, Nat.le_of_ble_eq_true rfl⟩ (dk T_X10_carryOutItems 36 rfl) (fun H locs Y => ?_)
      refine lv_if_ne (tgt := 131) X.1 X.2.1 (dk T_X10_carryOutItems 37 rfl) rfl (fun c9 => ?_) (fun c9 => ?_)
      · replace h := ineg c9 h
        refine lv_iinc (v := z.1 + 1) (lv' := [(2, .int (z.1 + 1)), (3, .int (q6 + q7)), (0, .ref (g.2.2 (0))), (1, .int (x1))]) X.1 X.2.1 (dk T_X10_carryOutItems 64 rfl) hl (k := 3) rfl (icx ic_1) (Nat.le_of_ble_eq_true rfl) rfl (fun ls hl => ?_)
        refine lv_goto (tgt := 20) X.1 X.2.1 (dk T_X10_carryOutItems 65 rfl) rfl ?_
        exact KB (z.1 + 1) q8.2 (Option.some.inj h).symm _ _ _ Y (lv_sub hl [2, 3, 0] rfl)
      · replace h := ipos c9 h
        exact KX1 z.1 (q6 + q7) q8.2 (Option.some.inj h).symm _ _ _ Y (lv_sub hl [1, 3, 0] rfl)
def f_X10_carryOutItems_0 (x1 : Int32) (σ : St) : Option (Int32 × St) :=
  (f_X8_copyFrom 8 1 σ).bind fun q1 => (f_X6_rewind q1).bind fun q2 => (lp (f_X10_carryOutItems_l20 x1) FU (0, q2)).bind fun q10 => Sum.elim (fun v11 => (f_X2_push 8 v11).bind fun q12 => some (1, q12)) (fun v13 => (f_X0_add 83 1 v13.1 v13.2.2).bind fun q14 => (f_X0_add 83 3 v13.2.1 q14).bind fun q15 => (f_X6_faultKind q15).bind fun q16 => (f_X6_faultPlace q15).bind fun q17 => (f_X0_add 83 q16 q17 q15).bind fun q18 => (f_X8_copyFrom 1 8 q18).bind fun q19 => some (0, q19)) q10
set_option maxHeartbeats 4000000 in
set_option maxRecDepth 100000 in
theorem w_X10_carryOutItems_0 (X : Cx g RX10 cX10_carryOutItems 4 (some .boolean) p s m args meth c) (x1 : Int32) (σ : St) {w : Int32 × St} (KR : ∀ (H : Heap) (locs : List Loc) (ls : Array Slot) (pc : Nat), Wd g s w.2 H locs → decode cX10_carryOutItems pc = .ok (.ireturn, 1) → W p l e (rmm 5 119) s m args below meth c H locs 0 0 Q (F0 m pc ls [.int (w.1)])) {H : Heap} {locs : List Loc} {ls : Array Slot} (Y : Wd g s σ H locs) (hl : lv_has ls 4 [(0, .ref (g.2.2 (0))), (1, .int (x1))]) (h : f_X10_carryOutItems_0 x1 σ = some w) : W p l e (rmm 5 119) s m args below meth c H locs 0 0 Q (F0 m 0 ls []) := by
  unfold f_X10_carryOutItems_0 at h
  refine lv_aload_n X.1 X.2.1 (dk T_X10_carryOutItems 0 rfl) rfl (lv_at hl 0 rfl) ?_
  refine gg X Y fl_X10_16 rfl rfl (dk T_X10_carryOutItems 1 rfl) ?_
  refine lv_aload_n X.1 X.2.1 (dk T_X10_carryOutItems 2 rfl) rfl (lv_at hl 0 rfl) ?_
  refine gg X Y fl_X10_12 rfl rfl (dk T_X10_carryOutItems 3 rfl) ?_
  obtain ⟨q1, hq1, h⟩ := bs h
  refine gvV (rest := []) X Y (c_X8_copyFrom 8 1 rfl rfl σ hq1) cb_X10_318 rfl hl.1 rfl rfl (Nat.le_of_ble_eq_true rfl) ⟨Nat.le_of_ble_eq_true rfl, Nat.le_of_ble_eq_true rfl⟩ (dk T_X10_carryOutItems 4 rfl) (fun H locs Y => ?_)
  refine lv_aload_n X.1 X.2.1 (dk T_X10_carryOutItems 5 rfl) rfl (lv_at hl 0 rfl) ?_
  refine gg X Y fl_X10_70 rfl rfl (dk T_X10_carryOutItems 6 rfl) ?_
  obtain ⟨q2, hq2, h⟩ := bs h
  refine gvV (rest := []) X Y (c_X6_rewind q1 hq2) cb_X10_379 rfl hl.1 rfl rfl (Nat.le_of_ble_eq_true rfl) ⟨Nat.le_of_ble_eq_true rfl, Nat.le_of_ble_eq_true rfl⟩ (dk T_X10_carryOutItems 7 rfl) (fun H locs Y => ?_)
  refine lv_iconst (v := 0) X.1 X.2.1 (dk T_X10_carryOutItems 8 rfl) ic_0 ?_
  refine lv_istore_n (lv' := [(2, .int (0)), (0, .ref (g.2.2 (0))), (1, .int (x1))]) X.1 X.2.1 (dk T_X10_carryOutItems 9 rfl) rfl hl (Nat.le_of_ble_eq_true rfl) rfl (fun ls hl => ?_)
  obtain ⟨q10, hq10, h⟩ := bs h
  refine w_X10_carryOutItems_l20 X x1 σ (fun v e H locs ls Y hl => ?_) (fun v0_ v1_ v2_ e H locs ls Y hl => ?_) FU (0, q2) Y (lv_sub hl [1, 2, 0] rfl) hq10
  · obtain rfl := e
    replace h := sel h
    refine lv_aload_n X.1 X.2.1 (dk T_X10_carryOutItems 66 rfl) rfl (lv_at hl 0 rfl) ?_
    refine gg X Y fl_X10_25 rfl rfl (dk T_X10_carryOutItems 67 rfl) ?_
    refine lv_aload_n X.1 X.2.1 (dk T_X10_carryOutItems 68 rfl) rfl (lv_at hl 0 rfl) ?_
    refine gg X Y fl_X10_16 rfl rfl (dk T_X10_carryOutItems 69 rfl) ?_
    obtain ⟨q12, hq12, h⟩ := bs h
    refine gvV (rest := []) X Y (c_X2_push 8 rfl v hq12) cb_X10_108 rfl hl.1 rfl rfl (Nat.le_of_ble_eq_true rfl) ⟨Nat.le_of_ble_eq_true rfl, Nat.le_of_ble_eq_true rfl⟩ (dk T_X10_carryOutItems 70 rfl) (fun H locs Y => ?_)
    refine lv_iconst (v := 1) X.1 X.2.1 (dk T_X10_carryOutItems 71 rfl) ic_1 ?_
    obtain rfl := Option.some.inj h
    exact KR _ _ _ _ Y (dk T_X10_carryOutItems 72 rfl)
  · obtain rfl := e
    replace h := ser h
    try dsimp only at h
    refine lv_aload_n X.1 X.2.1 (dk T_X10_carryOutItems 38 rfl) rfl (lv_at hl 0 rfl) ?_
    refine gg X Y fl_X10_36 rfl rfl (dk T_X10_carryOutItems 39 rfl) ?_
    refine lv_iconst (v := 1) X.1 X.2.1 (dk T_X10_carryOutItems 40 rfl) ic_1 ?_
    refine lv_iload_n X.1 X.2.1 (dk T_X10_carryOutItems 41 rfl) rfl (lv_at hl 1 rfl) ?_
    obtain ⟨q14, hq14, h⟩ := bs h
    refine gvV (rest := []) X Y (c_X0_add 83 rfl 1 v0_ v2_ hq14) cb_X10_370 rfl hl.1 rfl rfl (Nat.le_of_ble_eq_true rfl) ⟨Nat.le_of_ble_eq_true rfl, Nat.le_of_ble_eq_true rfl⟩ (dk T_X10_carryOutItems 42 rfl) (fun H locs Y => ?_)
    refine lv_aload_n X.1 X.2.1 (dk T_X10_carryOutItems 43 rfl) rfl (lv_at hl 0 rfl) ?_
    refine gg X Y fl_X10_36 rfl rfl (dk T_X10_carryOutItems 44 rfl) ?_
    refine lv_iconst (v := 3) X.1 X.2.1 (dk T_X10_carryOutItems 45 rfl) ic_3 ?_
    refine lv_iload_n X.1 X.2.1 (dk T_X10_carryOutItems 46 rfl) rfl (lv_at hl 2 rfl) ?_
    obtain ⟨q15, hq15, h⟩ := bs h
    refine gvV (rest := []) X Y (c_X0_add 83 rfl 3 v1_ q14 hq15) cb_X10_370 rfl hl.1 rfl rfl (Nat.le_of_ble_eq_true rfl) ⟨Nat.le_of_ble_eq_true rfl, Nat.le_of_ble_eq_true rfl⟩ (dk T_X10_carryOutItems 47 rfl) (fun H locs Y => ?_)
    refine lv_aload_n X.1 X.2.1 (dk T_X10_carryOutItems 48 rfl) rfl (lv_at hl 0 rfl) ?_
    refine gg X Y fl_X10_36 rfl rfl (dk T_X10_carryOutItems 49 rfl) ?_
    refine lv_aload_n X.1 X.2.1 (dk T_X10_carryOutItems 50 rfl) rfl (lv_at hl 0 rfl) ?_
    refine gg X Y fl_X10_70 rfl rfl (dk T_X10_carryOutItems 51 rfl) ?_
    obtain ⟨q16, hq16, h⟩ := bs h
    refine gvI (rest := [.ref (g.2.2 (83))]) X Y (c_X6_faultKind q15 hq16) cb_X10_392 rfl hl.1 rfl rfl (Nat.le_of_ble_eq_true rfl) ⟨Nat.le_of_ble_eq_true rfl, Nat.le_of_ble_eq_true rfl⟩ (dk T_X10_carryOutItems 52 rfl) (fun H locs Y => ?_)
    refine lv_aload_n X.1 X.2.1 (dk T_X10_carryOutItems 53 rfl) rfl (lv_at hl 0 rfl) ?_
    refine gg X Y fl_X10_70 rfl rfl (dk T_X10_carryOutItems 54 rfl) ?_
    obtain ⟨q17, hq17, h⟩ := bs h
    refine gvI (rest := [.int (q16), .ref (g.2.2 (83))]) X Y (c_X6_faultPlace q15 hq17) cb_X10_395 rfl hl.1 rfl rfl (Nat.le_of_ble_eq_true rfl) ⟨Nat.le_of_ble_eq_true rfl, Nat.le_of_ble_eq_true rfl⟩ (dk T_X10_carryOutItems 55 rfl) (fun H locs Y => ?_)
    obtain ⟨q18, hq18, h⟩ := bs h
    refine gvV (rest := []) X Y (c_X0_add 83 rfl q16 q17 q15 hq18) cb_X10_370 rfl hl.1 rfl rfl (Nat.le_of_ble_eq_true rfl) ⟨Nat.le_of_ble_eq_true rfl, Nat.le_of_ble_eq_true rfl⟩ (dk T_X10_carryOutItems 56 rfl) (fun H locs Y => ?_)
    refine lv_aload_n X.1 X.2.1 (dk T_X10_carryOutItems 57 rfl) rfl (lv_at hl 0 rfl) ?_
    refine gg X Y fl_X10_12 rfl rfl (dk T_X10_carryOutItems 58 rfl) ?_
    refine lv_aload_n X.1 X.2.1 (dk T_X10_carryOutItems 59 rfl) rfl (lv_at hl 0 rfl) ?_
    refine gg X Y fl_X10_16 rfl rfl (dk T_X10_carryOutItems 60 rfl) ?_
    obtain ⟨q19, hq19, h⟩ := bs h
    refine gvV (rest := []) X Y (c_X8_copyFrom 1 8 rfl rfl q18 hq19) cb_X10_318 rfl hl.1 rfl rfl (Nat.le_of_ble_eq_true rfl) ⟨Nat.le_of_ble_eq_true rfl, Nat.le_of_ble_eq_true rfl⟩ (dk T_X10_carryOutItems 61 rfl) (fun H locs Y => ?_)
    refine lv_iconst (v := 0) X.1 X.2.1 (dk T_X10_carryOutItems 62 rfl) ic_0 ?_
    obtain rfl := Option.some.inj h
    exact KR _ _ _ _ Y (dk T_X10_carryOutItems 63 rfl)
def f_X10_carryOutItems (x1 : Int32) (σ : St) : Option (Int32 × St) := bzW (f_X10_carryOutItems_0 x1 σ)
set_option maxHeartbeats 4000000 in
set_option maxRecDepth 100000 in
theorem c_X10_carryOutItems {l : Launch} {g : Geo} (x1 : Int32) (σ : St) {w : Int32 × St} (h : f_X10_carryOutItems x1 σ = some w) : CtI l yX10_carryOutItems cX10_carryOutItems 4 (some .boolean) (rmm 5 119) g [.ref (g.2.2 (0)), .int (x1)] σ w.1 w.2 := by
  obtain ⟨h, hz⟩ := bzW_s h
  exact enI .boolean (by decide) rfl (bz_n hz) (Nat.le_of_ble_eq_true rfl) (fun p e s m args below meth c Q X Y ls hl KR => w_X10_carryOutItems_0 X x1 σ KR Y hl h)
def I_X10_read : List (Nat × Instr × Nat) := [(0, .aload_n 0, 1), (1, .getfield 36, 3), (4, .invokevirtual 300, 3), (7, .aload_n 0, 1), (8, .getfield 70, 3), (11, .invokevirtual 303, 3), (14, .istore_n 1, 1), (15, .iload_n 1, 1), (16, .ifCond .le 11, 3), (19, .aload_n 0, 1), (20, .iload_n 1, 1), (21, .invokevirtual 306, 3), (24, .goto 7, 3), (27, .aload_n 0, 1), (28, .invokevirtual 309, 3), (31, .istore_n 2, 1), (32, .aload_n 0, 1), (33, .getfield 70, 3), (36, .invokevirtual 312, 3), (39, .iload_n 2, 1), (40, .ifCond .eq 7, 3), (43, .iload_n 1, 1), (44, .goto 4, 3), (47, .iconst (-1), 1), (48, .ireturn, 1)]
set_option maxRecDepth 100000 in
theorem T_X10_read : ∀ q ∈ I_X10_read, decode cX10_read q.1 = .ok (q.2.1, q.2.2) := by decide +kernel
def f_X10_read_j31 (x1 : Int32) (s0 : Int32) (σ : St) : Option (Int32 × St) :=
  (f_X6_clear σ).bind fun q5 => if s0 = 0 then some ((-1), q5) else some (x1, q5)
set_option maxHeartbeats 4000000 in
set_option maxRecDepth 100000 in
theorem w_X10_read_j31 (X : Cx g RX10 cX10_read 3 (some .int) p s m args meth c) (x1 : Int32) (s0 : Int32) (σ : St) {w : Int32 × St} (KR : ∀ (H : Heap) (locs : List Loc) (ls : Array Slot) (pc : Nat), Wd g s w.2 H locs → decode cX10_read pc = .ok (.ireturn, 1) → W p l e (rmm 6 142) s m args below meth c H locs 0 0 Q (F0 m pc ls [.int (w.1)])) {H : Heap} {locs : List Loc} {ls : Array Slot} (Y : Wd g s σ H locs) (hl : lv_has ls 3 [(0, .ref (g.2.2 (0))), (1, .int (x1))]) (h : f_X10_read_j31 x1 s0 σ = some w) : W p l e (rmm 6 142) s m args below meth c H locs 0 0 Q (F0 m 31 ls [.int (s0)]) := by
  unfold f_X10_read_j31 at h
  refine lv_istore_n (lv' := [(2, .int (s0)), (0, .ref (g.2.2 (0))), (1, .int (x1))]) X.1 X.2.1 (dk T_X10_read 15 rfl) rfl hl (Nat.le_of_ble_eq_true rfl) rfl (fun ls hl => ?_)
  refine lv_aload_n X.1 X.2.1 (dk T_X10_read 16 rfl) rfl (lv_at hl 1 rfl) ?_
  refine gg X Y fl_X10_70 rfl rfl (dk T_X10_read 17 rfl) ?_
  obtain ⟨q5, hq5, h⟩ := bs h
  refine gvV (rest := []) X Y (c_X6_clear σ hq5) cb_X10_312 rfl hl.1 rfl rfl (Nat.le_of_ble_eq_true rfl) ⟨Nat.le_of_ble_eq_true rfl, Nat.le_of_ble_eq_true rfl⟩ (dk T_X10_read 18 rfl) (fun H locs Y => ?_)
  refine lv_iload_n X.1 X.2.1 (dk T_X10_read 19 rfl) rfl (lv_at hl 0 rfl) ?_
  refine lv_if_eq (tgt := 47) X.1 X.2.1 (dk T_X10_read 20 rfl) rfl (fun c6 => ?_) (fun c6 => ?_)
  · replace h := ipos c6 h
    refine lv_iconst (v := (-1)) X.1 X.2.1 (dk T_X10_read 23 rfl) ic_m1 ?_
    obtain rfl := Option.some.inj h
    exact KR _ _ _ _ Y (dk T_X10_read 24 rfl)
  · replace h := ineg c6 h
    refine lv_iload_n X.1 X.2.1 (dk T_X10_read 21 rfl) rfl (lv_at hl 2 rfl) ?_
    refine lv_goto (tgt := 48) X.1 X.2.1 (dk T_X10_read 22 rfl) rfl ?_
    obtain rfl := Option.some.inj h
    exact KR _ _ _ _ Y (dk T_X10_read 24 rfl)
def f_X10_read_0 (σ : St) : Option (Int32 × St) :=
  (f_X0_clear 83 σ).bind fun q1 => (f_X6_countItems q1).bind fun q2 => if q2.1 ≤ 0 then (f_X10_refuseText q2.2).bind fun q4 => f_X10_read_j31 q2.1 q4.1 q4.2 else (f_X10_carryOutItems q2.1 q2.2).bind fun q7 => f_X10_read_j31 q2.1 q7.1 q7.2
set_option maxHeartbeats 4000000 in
set_option maxRecDepth 100000 in
theorem w_X10_read_0 (X : Cx g RX10 cX10_read 3 (some .int) p s m args meth c) (σ : St) {w : Int32 × St} (KR : ∀ (H : Heap) (locs : List Loc) (ls : Array Slot) (pc : Nat), Wd g s w.2 H locs → decode cX10_read pc = .ok (.ireturn, 1) → W p l e (rmm 6 142) s m args below meth c H locs 0 0 Q (F0 m pc ls [.int (w.1)])) {H : Heap} {locs : List Loc} {ls : Array Slot} (Y : Wd g s σ H locs) (hl : lv_has ls 3 [(0, .ref (g.2.2 (0)))]) (h : f_X10_read_0 σ = some w) : W p l e (rmm 6 142) s m args below meth c H locs 0 0 Q (F0 m 0 ls []) := by
  unfold f_X10_read_0 at h
  refine lv_aload_n X.1 X.2.1 (dk T_X10_read 0 rfl) rfl (lv_at hl 0 rfl) ?_
  refine gg X Y fl_X10_36 rfl rfl (dk T_X10_read 1 rfl) ?_
  obtain ⟨q1, hq1, h⟩ := bs h
  refine gvV (rest := []) X Y (c_X0_clear 83 rfl σ hq1) cb_X10_300 rfl hl.1 rfl rfl (Nat.le_of_ble_eq_true rfl) ⟨Nat.le_of_ble_eq_true rfl, Nat.le_of_ble_eq_true rfl⟩ (dk T_X10_read 2 rfl) (fun H locs Y => ?_)
  refine lv_aload_n X.1 X.2.1 (dk T_X10_read 3 rfl) rfl (lv_at hl 0 rfl) ?_
  refine gg X Y fl_X10_70 rfl rfl (dk T_X10_read 4 rfl) ?_
  obtain ⟨q2, hq2, h⟩ := bs h
  refine gvI (rest := []) X Y (c_X6_countItems q1 hq2) cb_X10_303 rfl hl.1 rfl rfl (Nat.le_of_ble_eq_true rfl) ⟨Nat.le_of_ble_eq_true rfl, Nat.le_of_ble_eq_true rfl⟩ (dk T_X10_read 5 rfl) (fun H locs Y => ?_)
  refine lv_istore_n (lv' := [(1, .int (q2.1)), (0, .ref (g.2.2 (0)))]) X.1 X.2.1 (dk T_X10_read 6 rfl) rfl hl (Nat.le_of_ble_eq_true rfl) rfl (fun ls hl => ?_)
  refine lv_iload_n X.1 X.2.1 (dk T_X10_read 7 rfl) rfl (lv_at hl 0 rfl) ?_
  refine lv_if_le (tgt := 27) X.1 X.2.1 (dk T_X10_read 8 rfl) rfl (fun c3 => ?_) (fun c3 => ?_)
  · replace h := ipos c3 h
    refine lv_aload_n X.1 X.2.1 (dk T_X10_read 13 rfl) rfl (lv_at hl 1 rfl) ?_
    obtain ⟨q4, hq4, h⟩ := bs h
    refine gvI (rest := []) X Y (c_X10_refuseText q2.2 hq4) cb_X10_309 rfl hl.1 rfl rfl (Nat.le_of_ble_eq_true rfl) ⟨Nat.le_of_ble_eq_true rfl, Nat.le_of_ble_eq_true rfl⟩ (dk T_X10_read 14 rfl) (fun H locs Y => ?_)
    exact w_X10_read_j31 X q2.1 q4.1 q4.2 KR Y (lv_sub hl [1, 0] rfl) h
  · replace h := ineg c3 h
    refine lv_aload_n X.1 X.2.1 (dk T_X10_read 9 rfl) rfl (lv_at hl 1 rfl) ?_
    refine lv_iload_n X.1 X.2.1 (dk T_X10_read 10 rfl) rfl (lv_at hl 0 rfl) ?_
    obtain ⟨q7, hq7, h⟩ := bs h
    refine gvI (rest := []) X Y (c_X10_carryOutItems q2.1 q2.2 hq7) cb_X10_306 rfl hl.1 rfl rfl (Nat.le_of_ble_eq_true rfl) ⟨Nat.le_of_ble_eq_true rfl, Nat.le_of_ble_eq_true rfl⟩ (dk T_X10_read 11 rfl) (fun H locs Y => ?_)
    refine lv_goto (tgt := 31) X.1 X.2.1 (dk T_X10_read 12 rfl) rfl ?_
    exact w_X10_read_j31 X q2.1 q7.1 q7.2 KR Y (lv_sub hl [1, 0] rfl) h
def f_X10_read (σ : St) : Option (Int32 × St) := f_X10_read_0 σ
set_option maxHeartbeats 4000000 in
set_option maxRecDepth 100000 in
theorem c_X10_read {l : Launch} {g : Geo} (σ : St) {w : Int32 × St} (h : f_X10_read σ = some w) : CtI l yX10_read cX10_read 3 (some .int) (rmm 6 142) g [.ref (g.2.2 (0))] σ w.1 w.2 := enI .int (by decide) rfl rfl (Nat.le_of_ble_eq_true rfl) (fun p e s m args below meth c Q X Y ls hl KR => w_X10_read_0 X σ KR Y hl h)
end
