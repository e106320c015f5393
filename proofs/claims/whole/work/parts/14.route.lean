theorem bp_9 : (Int8.ofInt 9).toInt32 = 9 := by decide
theorem cb_X5_40 : CBN RX5 40 yX10_at cX10_at 2 (some .int) 2 := ⟨by decide, mw 0 2 rfl rfl, mw 14 27 rfl rfl, by decide, by decide, by decide +kernel, mw 14 26 rfl rfl⟩
theorem cb_X5_44 : CBV RX5 44 yX5_findStops cX5_findStops 6 none 2 6 := ⟨⟨mw 30 31 rfl rfl, mw 1 11 rfl rfl, mw 31 2 rfl rfl, by decide, by decide, by decide +kernel⟩, mw 31 0 rfl rfl, mw 31 1 rfl rfl, TX5, 9, tyX5, cl_X5⟩
theorem cb_X5_48 : CBV RX5 48 yX5_findInner cX5_findInner 8 none 3 6 := ⟨⟨mw 31 7 rfl rfl, mw 1 11 rfl rfl, mw 31 10 rfl rfl, by decide, by decide, by decide +kernel⟩, mw 31 8 rfl rfl, mw 31 9 rfl rfl, TX5, 9, tyX5, cl_X5⟩
theorem cb_X5_52 : CBV RX5 52 yX5_findRests cX5_findRests 4 none 0 6 := ⟨⟨mw 31 13 rfl rfl, mw 1 11 rfl rfl, mw 31 16 rfl rfl, by decide, by decide, by decide +kernel⟩, mw 31 14 rfl rfl, mw 31 15 rfl rfl, TX5, 9, tyX5, cl_X5⟩
theorem cb_X5_55 : CBV RX5 55 yX5_choose cX5_choose 7 (some .int) 3 6 := ⟨⟨mw 31 17 rfl rfl, mw 1 11 rfl rfl, mw 31 20 rfl rfl, by decide, by decide, by decide +kernel⟩, mw 31 18 rfl rfl, mw 31 19 rfl rfl, TX5, 9, tyX5, cl_X5⟩
theorem cb_X5_59 : CBN RX5 59 yX10_put cX10_put 3 none 3 := ⟨by decide, mw 0 2 rfl rfl, mw 14 13 rfl rfl, by decide, by decide, by decide +kernel, mw 14 12 rfl rfl⟩
theorem cb_X5_63 : CBV RX5 63 yX5_distance cX5_distance 5 (some .int) 2 6 := ⟨⟨mw 31 26 rfl rfl, mw 1 11 rfl rfl, mw 31 29 rfl rfl, by decide, by decide, by decide +kernel⟩, mw 31 27 rfl rfl, mw 31 28 rfl rfl, TX5, 9, tyX5, cl_X5⟩
theorem cb_X5_67 : CBV RX5 67 yX8_columnsOf cX8_columnsOf 2 (some .int) 1 9 := ⟨⟨mw 31 3 rfl rfl, mw 0 16 rfl rfl, mw 11 1 rfl rfl, by decide, by decide, by decide +kernel⟩, mw 10 31 rfl rfl, mw 11 0 rfl rfl, TX8, 3, tyX8, cl_X8⟩
theorem cb_X5_76 : CBV RX5 76 yX9_size cX9_size 1 (some .int) 0 10 := ⟨⟨mw 31 4 rfl rfl, mw 1 24 rfl rfl, mw 22 7 rfl rfl, by decide, by decide, by decide +kernel⟩, mw 22 5 rfl rfl, mw 22 6 rfl rfl, TX9, 3, tyX9, cl_X9⟩
theorem cb_X5_82 : CBV RX5 82 yX9_get cX9_get 4 (some .int) 2 10 := ⟨⟨mw 31 5 rfl rfl, mw 1 24 rfl rfl, mw 11 5 rfl rfl, by decide, by decide, by decide +kernel⟩, mw 11 3 rfl rfl, mw 11 4 rfl rfl, TX9, 3, tyX9, cl_X9⟩
theorem cb_X5_85 : CBV RX5 85 yX8_lowestCell cX8_lowestCell 4 (some .int) 1 9 := ⟨⟨mw 31 6 rfl rfl, mw 0 16 rfl rfl, mw 22 27 rfl rfl, by decide, by decide, by decide +kernel⟩, mw 22 25 rfl rfl, mw 22 26 rfl rfl, TX8, 3, tyX8, cl_X8⟩
theorem cb_X5_88 : CBV RX5 88 yX4_findHoles cX4_findHoles 5 none 3 5 := ⟨⟨mw 31 11 rfl rfl, mw 1 7 rfl rfl, mw 23 6 rfl rfl, by decide, by decide, by decide +kernel⟩, mw 23 4 rfl rfl, mw 23 5 rfl rfl, TX4, 11, tyX4, cl_X4⟩
theorem cb_X5_94 : CBV RX5 94 yX4_isInHole cX4_isInHole 2 (some .boolean) 1 5 := ⟨⟨mw 31 12 rfl rfl, mw 1 7 rfl rfl, mw 23 10 rfl rfl, by decide, by decide, by decide +kernel⟩, mw 23 8 rfl rfl, mw 23 9 rfl rfl, TX4, 11, tyX4, cl_X4⟩
theorem cb_X5_99 : CBV RX5 99 yX5_isAllowed cX5_isAllowed 3 (some .boolean) 2 6 := ⟨⟨mw 31 22 rfl rfl, mw 1 11 rfl rfl, mw 31 25 rfl rfl, by decide, by decide, by decide +kernel⟩, mw 31 23 rfl rfl, mw 31 24 rfl rfl, TX5, 9, tyX5, cl_X5⟩
theorem mb_X5_103 : MB RX5 103 Lib.Math.abs.name Lib.Math.abs.code 1 := ⟨mw 31 30 rfl rfl, mw 31 31 rfl rfl, mw 5 30 rfl rfl, mw 32 0 rfl rfl⟩
section
variable {p : Program} {l : Launch} {e : Env} {s : State} {m : MethodId} {args : Array Value} {below : List Frame} {meth : Method} {c : Code} {Q : State → Prop} {g : Geo}
def I_X5_findStops : List (Nat × Instr × Nat) := [(0, .aload_n 1, 1), (1, .iload_n 2, 1), (2, .invokevirtual 67, 3), (5, .istore_n 3, 1), (6, .aload_n 0, 1), (7, .iconst 0, 1), (8, .putfield 30, 3), (11, .iconst 0, 1), (12, .istore 4, 2), (14, .iload 4, 2), (16, .aload_n 1, 1), (17, .getfield 73, 3), (20, .invokevirtual 76, 3), (23, .if_icmp .ge 100, 3), (26, .aload_n 1, 1), (27, .getfield 73, 3), (30, .iload 4, 2), (32, .iconst 1, 1), (33, .invokevirtual 82, 3), (36, .iload_n 2, 1), (37, .if_icmp .ne 80, 3), (40, .aload_n 1, 1), (41, .iload 4, 2), (43, .invokevirtual 85, 3), (46, .istore 5, 2), (48, .aload_n 0, 1), (49, .getfield 9, 3), (52, .aload_n 0, 1), (53, .getfield 30, 3), (56, .iload 4, 2), (58, .invokestatic 59, 3), (61, .aload_n 0, 1), (62, .getfield 15, 3), (65, .aload_n 0, 1), (66, .getfield 30, 3), (69, .iload_n 3, 1), (70, .ifCond .le 10, 3), (73, .iload 5, 2), (75, .iload_n 3, 1), (76, .irem, 1), (77, .goto 4, 3), (80, .iconst 0, 1), (81, .invokestatic 59, 3), (84, .aload_n 0, 1), (85, .getfield 18, 3), (88, .aload_n 0, 1), (89, .getfield 30, 3), (92, .iload_n 3, 1), (93, .ifCond .le 10, 3), (96, .iload 5, 2), (98, .iload_n 3, 1), (99, .idiv, 1), (100, .goto 4, 3), (103, .iconst 0, 1), (104, .invokestatic 59, 3), (107, .aload_n 0, 1), (108, .dup, 1), (109, .getfield 30, 3), (112, .iconst 1, 1), (113, .iadd, 1), (114, .putfield 30, 3), (117, .iinc 4 1, 3), (120, .goto (-106), 3), (123, .return_, 1)]
set_option maxRecDepth 100000 in
theorem T_X5_findStops : ∀ q ∈ I_X5_findStops, decode cX5_findStops q.1 = .ok (q.2.1, q.2.2) := by decide +kernel
def f_X5_findStops_j117 (t1 : Nat) (x2 : Int32) (x3 : Int32) (x4 : Int32) (σ : St) : Option ((Int32 × St) ⊕ (St)) :=
  some (.inl (x4 + 1, σ))
set_option maxHeartbeats 4000000 in
set_option maxRecDepth 100000 in
theorem w_X5_findStops_j117 (X : Cx g RX5 cX5_findStops 6 none p s m args meth c) (t1 : Nat) (hk1 : kd t1 = 9) (x2 : Int32) (x3 : Int32) (x4 : Int32) (σ : St) {w : (Int32 × St) ⊕ (St)} (KB : ∀ (v0_ : Int32) (v1_ : St), w = .inl (v0_, v1_) → ∀ (H : Heap) (locs : List Loc) (ls : Array Slot), Wd g s v1_ H locs → lv_has ls 6 [(0, .ref (g.2.2 (92))), (1, .ref (g.2.2 (t1))), (2, .int (x2)), (3, .int (x3)), (4, .int (v0_))] → W p l e (rmm 4 88) s m args below meth c H locs 0 0 Q (F0 m 14 ls [])) (KX0 : ∀ (v : St), w = .inr v → ∀ (H : Heap) (locs : List Loc) (ls : Array Slot), Wd g s v H locs → lv_has ls 6 [] → W p l e (rmm 4 88) s m args below meth c H locs 0 0 Q (F0 m 123 ls [])) {H : Heap} {locs : List Loc} {ls : Array Slot} (Y : Wd g s σ H locs) (hl : lv_has ls 6 [(0, .ref (g.2.2 (92))), (1, .ref (g.2.2 (t1))), (2, .int (x2)), (3, .int (x3)), (4, .int (x4))]) (h : f_X5_findStops_j117 t1 x2 x3 x4 σ = some w) : W p l e (rmm 4 88) s m args below meth c H locs 0 0 Q (F0 m 117 ls []) := by
  unfold f_X5_findStops_j117 at h
  refine lv_iinc (v := x4 + 1) (lv' := [(4, .int (x4 + 1)), (0, .ref (g.2.2 (92))), (1, .ref (g.2.2 (t1))), (2, .int (x2)), (3, .int (x3))]) X.1 X.2.1 (dk T_X5_findStops 61 rfl) hl (k := 4) rfl (icx ic_1) (Nat.le_of_ble_eq_true rfl) rfl (fun ls hl => ?_)
  refine lv_goto (tgt := 14) X.1 X.2.1 (dk T_X5_findStops 62 rfl) rfl ?_
  exact KB (x4 + 1) σ (Option.some.inj h).symm _ _ _ Y (lv_sub hl [1, 2, 3, 4, 0] rfl)
def f_X5_findStops_j104 (t1 : Nat) (x2 : Int32) (x3 : Int32) (x4 : Int32) (s0 : Int32) (s1 : Int32) (σ : St) : Option ((Int32 × St) ⊕ (St)) :=
  (f_X10_put 95 s1 s0 σ).bind fun q11 => f_X5_findStops_j117 t1 x2 x3 x4 (up q11 92 6 ((q11 92 6) + 1))
set_option maxHeartbeats 4000000 in
set_option maxRecDepth 100000 in
theorem w_X5_findStops_j104 (X : Cx g RX5 cX5_findStops 6 none p s m args meth c) (t1 : Nat) (hk1 : kd t1 = 9) (x2 : Int32) (x3 : Int32) (x4 : Int32) (s0 : Int32) (s1 : Int32) (σ : St) {w : (Int32 × St) ⊕ (St)} (KB : ∀ (v0_ : Int32) (v1_ : St), w = .inl (v0_, v1_) → ∀ (H : Heap) (locs : List Loc) (ls : Array Slot), Wd g s v1_ H locs → lv_has ls 6 [(0, .ref (g.2.2 (92))), (1, .ref (g.2.2 (t1))), (2, .int (x2)), (3, .int (x3)), (4, .int (v0_))] → W p l e (rmm 4 88) s m args below meth c H locs 0 0 Q (F0 m 14 ls [])) (KX0 : ∀ (v : St), w = .inr v → ∀ (H : Heap) (locs : List Loc) (ls : Array Slot), Wd g s v H locs → lv_has ls 6 [] → W p l e (rmm 4 88) s m args below meth c H locs 0 0 Q (F0 m 123 ls [])) {H : Heap} {locs : List Loc} {ls : Array Slot} (Y : Wd g s σ H locs) (hl : lv_has ls 6 [(0, .ref (g.2.2 (92))), (1, .ref (g.2.2 (t1))), (2, .int (x2)), (3, .int (x3)), (4, .int (x4))]) (h : f_X5_findStops_j104 t1 x2 x3 x4 s0 s1 σ = some w) : W p l e (rmm 4 88) s m args below meth c H locs 0 0 Q (F0 m 104 ls [.int (s0), .int (s1), .ref (g.2.2 (95))]) := by
  unfold f_X5_findStops_j104 at h
  obtain ⟨q11, hq11, h⟩ := bs h
  refine gsVN (rest := []) X Y (c_X10_put 95 rfl s1 s0 σ hq11) cb_X5_59 hl.1 rfl rfl (Nat.le_of_ble_eq_true rfl) ⟨Nat.le_of_ble_eq_true rfl, Nat.le_of_ble_eq_true rfl⟩ (dk T_X5_findStops 54 rfl) (fun H locs Y => ?_)
  refine lv_aload_n X.1 X.2.1 (dk T_X5_findStops 55 rfl) rfl (lv_at hl 0 rfl) ?_
  refine lv_dup X.1 X.2.1 (dk T_X5_findStops 56 rfl) rfl ?_
  refine gg X Y fl_X5_30 rfl rfl (dk T_X5_findStops 57 rfl) ?_
  refine lv_iconst (v := 1) X.1 X.2.1 (dk T_X5_findStops 58 rfl) ic_1 ?_
  refine lv_iadd X.1 X.2.1 (dk T_X5_findStops 59 rfl) ?_
  refine gp X Y fp_X5_30 rfl (nar_int _) (dk T_X5_findStops 60 rfl) (fun H locs Y => ?_)
  exact w_X5_findStops_j117 X t1 hk1 x2 x3 x4 (up q11 92 6 ((q11 92 6) + 1)) KB KX0 Y (lv_sub hl [0, 1, 2, 3, 4] rfl) h
def f_X5_findStops_j81 (t1 : Nat) (x2 : Int32) (x3 : Int32) (x4 : Int32) (x5 : Int32) (s0 : Int32) (s1 : Int32) (σ : St) : Option ((Int32 × St) ⊕ (St)) :=
  (f_X10_put 94 s1 s0 σ).bind fun q9 => if x3 ≤ 0 then f_X5_findStops_j104 t1 x2 x3 x4 0 (q9 92 6) q9 else chk (nz x3) (f_X5_findStops_j104 t1 x2 x3 x4 (x5 / x3) (q9 92 6) q9)
set_option maxHeartbeats 4000000 in
set_option maxRecDepth 100000 in
theorem w_X5_findStops_j81 (X : Cx g RX5 cX5_findStops 6 none p s m args meth c) (t1 : Nat) (hk1 : kd t1 = 9) (x2 : Int32) (x3 : Int32) (x4 : Int32) (x5 : Int32) (s0 : Int32) (s1 : Int32) (σ : St) {w : (Int32 × St) ⊕ (St)} (KB : ∀ (v0_ : Int32) (v1_ : St), w = .inl (v0_, v1_) → ∀ (H : Heap) (locs : List Loc) (ls : Array Slot), Wd g s v1_ H locs → lv_has ls 6 [(0, .ref (g.2.2 (92))), (1, .ref (g.2.2 (t1))), (2, .int (x2)), (3, .int (x3)), (4, .int (v0_))] → W p l e (rmm 4 88) s m args below meth c H locs 0 0 Q (F0 m 14 ls [])) (KX0 : ∀ (v : St), w = .inr v → ∀ (H : Heap) (locs : List Loc) (ls : Array Slot), Wd g s v H locs → lv_has ls 6 [] → W p l e (rmm 4 88) s m args below meth c H locs 0 0 Q (F0 m 123 ls [])) {H : Heap} {locs : List Loc} {ls : Array Slot} (Y : Wd g s σ H locs) (hl : lv_has ls 6 [(0, .ref (g.2.2 (92))), (1, .ref (g.2.2 (t1))), (2, .int (x2)), (3, .int (x3)), (4, .int (x4)), (5, .int (x5))]) (h : f_X5_findStops_j81 t1 x2 x3 x4 x5 s0 s1 σ = some w) : W p l e (rmm 4 88) s m args below meth c H locs 0 0 Q (F0 m 81 ls [.int (s0), .int (s1), .ref (g.2.2 (94))]) := by
  unfold f_X5_findStops_j81 at h
  obtain ⟨q9, hq9, h⟩ := bs h
  refine gsVN (rest := []) X Y (c_X10_put 94 rfl s1 s0 σ hq9) cb_X5_59 hl.1 rfl rfl (Nat.le_of_ble_eq_true rfl) ⟨Nat.le_of_ble_eq_true rfl, Nat.le_of_ble_eq_true rfl⟩ (dk T_X5_findStops 42 rfl) (fun H locs Y => ?_)
  refine lv_aload_n X.1 X.2.1 (dk T_X5_findStops 43 rfl) rfl (lv_at hl 0 rfl) ?_
  refine gg X Y fl_X5_18 rfl rfl (dk T_X5_findStops 44 rfl) ?_
  refine lv_aload_n X.1 X.2.1 (dk T_X5_findStops 45 rfl) rfl (lv_at hl 0 rfl) ?_
  refine gg X Y fl_X5_30 rfl rfl (dk T_X5_findStops 46 rfl) ?_
  refine lv_iload_n X.1 X.2.1 (dk T_X5_findStops 47 rfl) rfl (lv_at hl 3 rfl) ?_
  refine lv_if_le (tgt := 103) X.1 X.2.1 (dk T_X5_findStops 48 rfl) rfl (fun c10 => ?_) (fun c10 => ?_)
  · replace h := ipos c10 h
    refine lv_iconst (v := 0) X.1 X.2.1 (dk T_X5_findStops 53 rfl) ic_0 ?_
    exact w_X5_findStops_j104 X t1 hk1 x2 x3 x4 0 (q9 92 6) q9 KB KX0 Y (lv_sub hl [0, 1, 2, 3, 4] rfl) h
  · replace h := ineg c10 h
    refine lv_iload X.1 X.2.1 (dk T_X5_findStops 49 rfl) (lv_at hl 5 rfl) ?_
    refine lv_iload_n X.1 X.2.1 (dk T_X5_findStops 50 rfl) rfl (lv_at hl 3 rfl) ?_
    obtain ⟨g12, h⟩ := gd h
    refine lv_idiv X.1 X.2.1 (dk T_X5_findStops 51 rfl) (nzp g12) ?_
    refine lv_goto (tgt := 104) X.1 X.2.1 (dk T_X5_findStops 52 rfl) rfl ?_
    exact w_X5_findStops_j104 X t1 hk1 x2 x3 x4 (x5 / x3) (q9 92 6) q9 KB KX0 Y (lv_sub hl [0, 1, 2, 3, 4] rfl) h
def f_X5_findStops_l14 (t1 : Nat) (x2 : Int32) (x3 : Int32) (z : Int32 × St) : Option ((Int32 × St) ⊕ (St)) :=
  (f_X9_size (t1 + 5) z.2).bind fun q2 => if q2 ≤ z.1 then some (.inr z.2) else (f_X9_get (t1 + 5) z.1 1 z.2).bind fun q4 => if q4 = x2 then (f_X8_lowestCell t1 z.1 z.2).bind fun q6 => (f_X10_put 93 (z.2 92 6) z.1 z.2).bind fun q7 => if x3 ≤ 0 then f_X5_findStops_j81 t1 x2 x3 z.1 q6 0 (q7 92 6) q7 else chk (nz x3) (f_X5_findStops_j81 t1 x2 x3 z.1 q6 (q6 - q6 / x3 * x3) (q7 92 6) q7) else f_X5_findStops_j117 t1 x2 x3 z.1 z.2
set_option maxHeartbeats 4000000 in
set_option maxRecDepth 100000 in
theorem w_X5_findStops_l14 (X : Cx g RX5 cX5_findStops 6 none p s m args meth c) (t1 : Nat) (hk1 : kd t1 = 9) (x2 : Int32) (x3 : Int32) (σ : St) {r : St} (KX0 : ∀ (v : St), r = v → ∀ (H : Heap) (locs : List Loc) (ls : Array Slot), Wd g s v H locs → lv_has ls 6 [] → W p l e (rmm 4 88) s m args below meth c H locs 0 0 Q (F0 m 123 ls [])) : ∀ (n : Nat) (z : Int32 × St) {H : Heap} {locs : List Loc} {ls : Array Slot}, Wd g s z.2 H locs → lv_has ls 6 [(0, .ref (g.2.2 (92))), (1, .ref (g.2.2 (t1))), (2, .int (x2)), (3, .int (x3)), (4, .int (z.1))] → lp (f_X5_findStops_l14 t1 x2 x3) n z = some r → W p l e (rmm 4 88) s m args below meth c H locs 0 0 Q (F0 m 14 ls []) := by
  intro n
  induction n with
  | zero => intro z H locs ls Y hl h; cases h
  | succ n ih =>
    intro z H locs ls Y hl h
    obtain ⟨w, h, hw⟩ := lps h
    have KB : ∀ (v0_ : Int32) (v1_ : St), w = .inl (v0_, v1_) → ∀ (H : Heap) (locs : List Loc) (ls : Array Slot), Wd g s v1_ H locs → lv_has ls 6 [(0, .ref (g.2.2 (92))), (1, .ref (g.2.2 (t1))), (2, .int (x2)), (3, .int (x3)), (4, .int (v0_))] → W p l e (rmm 4 88) s m args below meth c H locs 0 0 Q (F0 m 14 ls []) := fun v0_ v1_ e H locs ls Y hl => ih (v0_, v1_) Y hl (lpl hw e)
    have KX0 := fun (v : St) (e : w = .inr v) => KX0 v (lpr hw e)
    unfold f_X5_findStops_l14 at h
    refine lv_iload X.1 X.2.1 (dk T_X5_findStops 9 rfl) (lv_at hl 4 rfl) ?_
    refine lv_aload_n X.1 X.2.1 (dk T_X5_findStops 10 rfl) rfl (lv_at hl 1 rfl) ?_
    refine ggN X Y fl_X5_73 hk1 rfl (dk T_X5_findStops 11 rfl) ?_
    obtain ⟨q2, hq2, h⟩ := bs h
    refine gvI (rest := [.int (z.1)]) X Y (c_X9_size (t1 + 5) (ks5 hk1) z.2 hq2) cb_X5_76 (ks5 hk1) hl.1 rfl rfl (Nat.le_of_ble_eq_true rfl) ⟨Nat.le_of_ble_eq_true rfl, Nat.le_of_ble_eq_true rfl⟩ (dk T_X5_findStops 12 rfl) (fun H locs Y => ?_)
    refine lv_icmp_ge (tgt := 123) X.1 X.2.1 (dk T_X5_findStops 13 rfl) rfl (fun c3 => ?_) (fun c3 => ?_)
    · replace h := ipos c3 h
      exact KX0 z.2 (Option.some.inj h).symm _ _ _ Y (lv_sub hl [] rfl)
    · replace h := ineg c3 h
      refine lv_aload_n X.1 X.2.1 (dk T_X5_findStops 14 rfl) rfl (lv_at hl 1 rfl) ?_
      refine ggN X Y fl_X5_73 hk1 rfl (dk T_X5_findStops 15 rfl) ?_
      refine lv_iload X.1 X.2.1 (dk T_X5_findStops 16 rfl) (lv_at hl 4 rfl) ?_
      refine lv_iconst (v := 1) X.1 X.2.1 (dk T_X5_findStops 17 rfl) ic_1 ?_
      obtain ⟨q4, hq4, h⟩ := bs h
      refine gvI (rest := []) X Y (c_X9_get (t1 + 5) (ks5 hk1) z.1 1 z.2 hq4) cb_X5_82 (ks5 hk1) hl.1 rfl rfl (Nat.le_of_ble_eq_true rfl) ⟨Nat.le_of_ble_eq_true rfl, Nat.le_of_ble_eq_true rfl⟩ (dk T_X5_findStops 18 rfl) (fun H locs Y => ?_)
      refine lv_iload_n X.1 X.2.1 (dk T_X5_findStops 19 rfl) rfl (lv_at hl 2 rfl) ?_
      refine lv_icmp_ne (tgt := 117) X.1 X.2.1 (dk T_X5_findStops 20 rfl) rfl (fun c5 => ?_) (fun c5 => ?_)
      · replace h := ineg c5 h
        exact w_X5_findStops_j117 X t1 hk1 x2 x3 z.1 z.2 KB KX0 Y (lv_sub hl [0, 1, 2, 3, 4] rfl) h
      · replace h := ipos c5 h
        refine lv_aload_n X.1 X.2.1 (dk T_X5_findStops 21 rfl) rfl (lv_at hl 1 rfl) ?_
        refine lv_iload X.1 X.2.1 (dk T_X5_findStops 22 rfl) (lv_at hl 4 rfl) ?_
        obtain ⟨q6, hq6, h⟩ := bs h
        refine gvI (rest := []) X Y (c_X8_lowestCell t1 hk1 z.1 z.2 hq6) cb_X5_85 hk1 hl.1 rfl rfl (Nat.le_of_ble_eq_true rfl) ⟨Nat.le_of_ble_eq_true rfl, Nat.le_of_ble_eq_true rfl⟩ (dk T_X5_findStops 23 rfl) (fun H locs Y => ?_)
        refine lv_istore (lv' := [(5, .int (q6)), (0, .ref (g.2.2 (92))), (1, .ref (g.2.2 (t1))), (2, .int (x2)), (3, .int (x3)), (4, .int (z.1))]) X.1 X.2.1 (dk T_X5_findStops 24 rfl) hl (Nat.le_of_ble_eq_true rfl) rfl (fun ls hl => ?_)
        refine lv_aload_n X.1 X.2.1 (dk T_X5_findStops 25 rfl) rfl (lv_at hl 1 rfl) ?_
        refine gg X Y fl_X5_9 rfl rfl (dk T_X5_findStops 26 rfl) ?_
        refine lv_aload_n X.1 X.2.1 (dk T_X5_findStops 27 rfl) rfl (lv_at hl 1 rfl) ?_
        refine gg X Y fl_X5_30 rfl rfl (dk T_X5_findStops 28 rfl) ?_
        refine lv_iload X.1 X.2.1 (dk T_X5_findStops 29 rfl) (lv_at hl 5 rfl) ?_
        obtain ⟨q7, hq7, h⟩ := bs h
        refine gsVN (rest := []) X Y (c_X10_put 93 rfl (z.2 92 6) z.1 z.2 hq7) cb_X5_59 hl.1 rfl rfl (Nat.le_of_ble_eq_true rfl) ⟨Nat.le_of_ble_eq_true rfl, Nat.le_of_ble_eq_true rfl⟩ (dk T_X5_findStops 30 rfl) (fun H locs Y => ?_)
        refine lv_aload_n X.1 X.2.1 (dk T_X5_findStops 31 rfl) rfl (lv_at hl 1 rfl) ?_
        refine gg X Y fl_X5_15 rfl rfl (dk T_X5_findStops 32 rfl) ?_
        refine lv_aload_n X.1 X.2.1 (dk T_X5_findStops 33 rfl) rfl (lv_at hl 1 rfl) ?_
        refine gg X Y fl_X5_30 rfl rfl (dk T_X5_findStops 34 rfl) ?_
        refine lv_iload_n X.1 X.2.1 (dk T_X5_findStops 35 rfl) rfl (lv_at hl 4 rfl) ?_
        refine lv_if_le (tgt := 80) X.1 X.2.1 (dk T_X5_findStops 36 rfl) rfl (fun c8 => ?_) (fun c8 => ?_)
        · replace h := ipos c8 h
          refine lv_iconst (v := 0) X.1 X.2.1 (dk T_X5_findStops 41 rfl) ic_0 ?_
          exact w_X5_findStops_j81 X t1 hk1 x2 x3 z.1 q6 0 (q7 92 6) q7 KB KX0 Y (lv_sub hl [1, 2, 3, 4, 5, 0] rfl) h
        · replace h := ineg c8 h
          refine lv_iload X.1 X.2.1 (dk T_X5_findStops 37 rfl) (lv_at hl 0 rfl) ?_
          refine lv_iload_n X.1 X.2.1 (dk T_X5_findStops 38 rfl) rfl (lv_at hl 4 rfl) ?_
          obtain ⟨g13, h⟩ := gd h
          refine lv_irem X.1 X.2.1 (dk T_X5_findStops 39 rfl) (nzp g13) ?_
          refine lv_goto (tgt := 81) X.1 X.2.1 (dk T_X5_findStops 40 rfl) rfl ?_
          exact w_X5_findStops_j81 X t1 hk1 x2 x3 z.1 q6 (q6 - q6 / x3 * x3) (q7 92 6) q7 KB KX0 Y (lv_sub hl [1, 2, 3, 4, 5, 0] rfl) h
def f_X5_findStops_0 (t1 : Nat) (x2 : Int32) (σ : St) : Option (St) :=
  (f_X8_columnsOf t1 x2 σ).bind fun q1 => (lp (f_X5_findStops_l14 t1 x2 q1) FU (0, up σ 92 6 0)).bind fun q14 => some q14
set_option maxHeartbeats 4000000 in
set_option maxRecDepth 100000 in
theorem w_X5_findStops_0 (X : Cx g RX5 cX5_findStops 6 none p s m args meth c) (t1 : Nat) (hk1 : kd t1 = 9) (x2 : Int32) (σ : St) {w : St} (KR : ∀ (H : Heap) (locs : List Loc) (ls : Array Slot) (pc : Nat), Wd g s w H locs → decode cX5_findStops pc = .ok (.return_, 1) → W p l e (rmm 4 88) s m args below meth c H locs 0 0 Q (F0 m pc ls [])) {H : Heap} {locs : List Loc} {ls : Array Slot} (Y : Wd g s σ H locs) (hl : lv_has ls 6 [(0, .ref (g.2.2 (92))), (1, .ref (g.2.2 (t1))), (2, .int (x2))]) (h : f_X5_findStops_0 t1 x2 σ = some w) : W p l e (rmm 4 88) s m args below meth c H locs 0 0 Q (F0 m 0 ls []) := by
  unfold f_X5_findStops_0 at h
  refine lv_aload_n X.1 X.2.1 (dk T_X5_findStops 0 rfl) rfl (lv_at hl 1 rfl) ?_
  refine lv_iload_n X.1 X.2.1 (dk T_X5_findStops 1 rfl) rfl (lv_at hl 2 rfl) ?_
  obtain ⟨q1, hq1, h⟩ := bs h
  refine gvI (rest := []) X Y (c_X8_columnsOf t1 hk1 x2 σ hq1) cb_X5_67 hk1 hl.1 rfl rfl (Nat.le_of_ble_eq_true rfl) ⟨Nat.le_of_ble_eq_true rfl, Nat.le_of_ble_eq_true rfl⟩ (dk T_X5_findStops 2 rfl) (fun H locs Y => ?_)
  refine lv_istore_n (lv' := [(3, .int (q1)), (0, .ref (g.2.2 (92))), (1, .ref (g.2.2 (t1))), (2, .int (x2))]) X.1 X.2.1 (dk T_X5_findStops 3 rfl) rfl hl (Nat.le_of_ble_eq_true rfl) rfl (fun ls hl => ?_)
  refine lv_aload_n X.1 X.2.1 (dk T_X5_findStops 4 rfl) rfl (lv_at hl 1 rfl) ?_
  refine lv_iconst (v := 0) X.1 X.2.1 (dk T_X5_findStops 5 rfl) ic_0 ?_
  refine gp X Y fp_X5_30 rfl (nar_int _) (dk T_X5_findStops 6 rfl) (fun H locs Y => ?_)
  refine lv_iconst (v := 0) X.1 X.2.1 (dk T_X5_findStops 7 rfl) ic_0 ?_
  refine lv_istore (lv' := [(4, .int (0)), (3, .int (q1)), (0, .ref (g.2.2 (92))), (1, .ref (g.2.2 (t1))), (2, .int (x2))]) X.1 X.2.1 (dk T_X5_findStops 8 rfl) hl (Nat.le_of_ble_eq_true rfl) rfl (fun ls hl => ?_)
  obtain ⟨q14, hq14, h⟩ := bs h
  refine w_X5_findStops_l14 X t1 hk1 x2 q1 σ (fun v e H locs ls Y hl => ?_) FU (0, up σ 92 6 0) Y (lv_sub hl [2, 3, 4, 1, 0] rfl) hq14
  · obtain rfl := e
    obtain rfl := Option.some.inj h
    exact KR _ _ _ _ Y (dk T_X5_findStops 63 rfl)
def f_X5_findStops (t1 : Nat) (x2 : Int32) (σ : St) : Option (St) := f_X5_findStops_0 t1 x2 σ
set_option maxHeartbeats 4000000 in
set_option maxRecDepth 100000 in
theorem c_X5_findStops {l : Launch} {g : Geo} (t1 : Nat) (hk1 : kd t1 = 9) (x2 : Int32) (σ : St) {w : St} (h : f_X5_findStops t1 x2 σ = some w) : CtV l yX5_findStops cX5_findStops 6 none (rmm 4 88) g [.ref (g.2.2 (92)), .ref (g.2.2 (t1)), .int (x2)] σ w := enV (by decide) rfl (Nat.le_of_ble_eq_true rfl) (fun p e s m args below meth c Q X Y ls hl KR => w_X5_findStops_0 X t1 hk1 x2 σ KR Y hl h)
def I_X5_findInner : List (Nat × Instr × Nat) := [(0, .aload_n 1, 1), (1, .iload_n 3, 1), (2, .invokevirtual 67, 3), (5, .istore 4, 2), (7, .iconst 0, 1), (8, .istore 5, 2), (10, .iload 5, 2), (12, .aload_n 0, 1), (13, .getfield 30, 3), (16, .if_icmp .ge 94, 3), (19, .aload_n 2, 1), (20, .aload_n 1, 1), (21, .iload_n 3, 1), (22, .aload_n 0, 1), (23, .getfield 9, 3), (26, .iload 5, 2), (28, .invokestatic 40, 3), (31, .invokevirtual 88, 3), (34, .iconst 0, 1), (35, .istore 6, 2), (37, .iconst 0, 1), (38, .istore 7, 2), (40, .iload 7, 2), (42, .aload_n 0, 1), (43, .getfield 30, 3), (46, .if_icmp .ge 47, 3), (49, .aload_n 2, 1), (50, .aload_n 0, 1), (51, .getfield 15, 3), (54, .iload 7, 2), (56, .invokestatic 40, 3), (59, .iload 4, 2), (61, .aload_n 0, 1), (62, .getfield 18, 3), (65, .iload 7, 2), (67, .invokestatic 40, 3), (70, .imul, 1), (71, .iadd, 1), (72, .invokevirtual 94, 3), (75, .ifCond .eq 12, 3), (78, .iload 6, 2), (80, .iconst 1, 1), (81, .iload 7, 2), (83, .ishl, 1), (84, .ior, 1), (85, .istore 6, 2), (87, .iinc 7 1, 3), (90, .goto (-50), 3), (93, .aload_n 0, 1), (94, .getfield 21, 3), (97, .iload 5, 2), (99, .iload 6, 2), (101, .invokestatic 59, 3), (104, .iinc 5 1, 3), (107, .goto (-97), 3), (110, .return_, 1)]
set_option maxRecDepth 100000 in
theorem T_X5_findInner : ∀ q ∈ I_X5_findInner, decode cX5_findInner q.1 = .ok (q.2.1, q.2.2) := by decide +kernel
def f_X5_findInner_j87 (t1 : Nat) (x3 : Int32) (x4 : Int32) (x5 : Int32) (x6 : Int32) (x7 : Int32) (σ : St) : Option ((Int32 × Int32) ⊕ (Int32)) :=
  some (.inl (x6, x7 + 1))
set_option maxHeartbeats 4000000 in
set_option maxRecDepth 100000 in
theorem w_X5_findInner_j87 (X : Cx g RX5 cX5_findInner 8 none p s m args meth c) (t1 : Nat) (hk1 : kd t1 = 9) (x3 : Int32) (x4 : Int32) (x5 : Int32) (x6 : Int32) (x7 : Int32) (σ : St) {w : (Int32 × Int32) ⊕ (Int32)} (KB : ∀ (v0_ : Int32) (v1_ : Int32), w = .inl (v0_, v1_) → ∀ (H : Heap) (locs : List Loc) (ls : Array Slot), Wd g s σ H locs → lv_has ls 8 [(0, .ref (g.2.2 (92))), (1, .ref (g.2.2 (t1))), (2, .ref (g.2.2 (89))), (3, .int (x3)), (4, .int (x4)), (5, .int (x5)), (6, .int (v0_)), (7, .int (v1_))] → W p l e (rmm 4 93) s m args below meth c H locs 0 0 Q (F0 m 40 ls [])) (KX0 : ∀ (v : Int32), w = .inr v → ∀ (H : Heap) (locs : List Loc) (ls : Array Slot), Wd g s σ H locs → lv_has ls 8 [(0, .ref (g.2.2 (92))), (1, .ref (g.2.2 (t1))), (2, .ref (g.2.2 (89))), (3, .int (x3)), (4, .int (x4)), (5, .int (x5)), (6, .int (v))] → W p l e (rmm 4 93) s m args below meth c H locs 0 0 Q (F0 m 93 ls [])) {H : Heap} {locs : List Loc} {ls : Array Slot} (Y : Wd g s σ H locs) (hl : lv_has ls 8 [(0, .ref (g.2.2 (92))), (1, .ref (g.2.2 (t1))), (2, .ref (g.2.2 (89))), (3, .int (x3)), (4, .int (x4)), (5, .int (x5)), (6, .int (x6)), (7, .int (x7))]) (h : f_X5_findInner_j87 t1 x3 x4 x5 x6 x7 σ = some w) : W p l e (rmm 4 93) s m args below meth c H locs 0 0 Q (F0 m 87 ls []) := by
  unfold f_X5_findInner_j87 at h
  refine lv_iinc (v := x7 + 1) (lv' := [(7, .int (x7 + 1)), (0, .ref (g.2.2 (92))), (1, .ref (g.2.2 (t1))), (2, .ref (g.2.2 (89))), (3, .int (x3)), (4, .int (x4)), (5, .int (x5)), (6, .int (x6))]) X.1 X.2.1 (dk T_X5_findInner 46 rfl) hl (k := 7) rfl (icx ic_1) (Nat.le_of_ble_eq_true rfl) rfl (fun ls hl => ?_)
  refine lv_goto (tgt := 40) X.1 X.2.1 (dk T_X5_findInner 47 rfl) rfl ?_
  exact KB x6 (x7 + 1) (Option.some.inj h).symm _ _ _ Y (lv_sub hl [1, 2, 3, 4, 5, 6, 7, 0] rfl)
def f_X5_findInner_l40 (t1 : Nat) (x3 : Int32) (x4 : Int32) (x5 : Int32) (σ : St) (z : Int32 × Int32) : Option ((Int32 × Int32) ⊕ (Int32)) :=
  if (σ 92 6) ≤ z.2 then some (.inr z.1) else (f_X10_at 94 z.2 σ).bind fun q6 => (f_X10_at 95 z.2 σ).bind fun q7 => (f_X4_isInHole (q6 + (x4 * q7)) σ).bind fun q8 => if q8 = 0 then f_X5_findInner_j87 t1 x3 x4 x5 z.1 z.2 σ else f_X5_findInner_j87 t1 x3 x4 x5 (z.1 ||| ((1 : Int32) <<< (z.2 &&& 31))) z.2 σ
set_option maxHeartbeats 4000000 in
set_option maxRecDepth 100000 in
theorem w_X5_findInner_l40 (X : Cx g RX5 cX5_findInner 8 none p s m args meth c) (t1 : Nat) (hk1 : kd t1 = 9) (x3 : Int32) (x4 : Int32) (x5 : Int32) (σ : St) {r : Int32} (KX0 : ∀ (v : Int32), r = v → ∀ (H : Heap) (locs : List Loc) (ls : Array Slot), Wd g s σ H locs → lv_has ls 8 [(0, .ref (g.2.2 (92))), (1, .ref (g.2.2 (t1))), (2, .ref (g.2.2 (89))), (3, .int (x3)), (4, .int (x4)), (5, .int (x5)), (6, .int (v))] → W p l e (rmm 4 93) s m args below meth c H locs 0 0 Q (F0 m 93 ls [])) : ∀ (n : Nat) (z : Int32 × Int32) {H : Heap} {locs : List Loc} {ls : Array Slot}, Wd g s σ H locs → lv_has ls 8 [(0, .ref (g.2.2 (92))), (1, .ref (g.2.2 (t1))), (2, .ref (g.2.2 (89))), (3, .int (x3)), (4, .int (x4)), (5, .int (x5)), (6, .int (z.1)), (7, .int (z.2))] → lp (f_X5_findInner_l40 t1 x3 x4 x5 σ) n z = some r → W p l e (rmm 4 93) s m args below meth c H locs 0 0 Q (F0 m 40 ls []) := by
  intro n
  induction n with
  | zero => intro z H locs ls Y hl h; cases h
  | succ n ih =>
    intro z H locs ls Y hl h
    obtain ⟨w, h, hw⟩ := lps h
    have KB : ∀ (v0_ : Int32) (v1_ : Int32), w = .inl (v0_, v1_) → ∀ (H : Heap) (locs : List Loc) (ls : Array Slot), Wd g s σ H locs → lv_has ls 8 [(0, .ref (g.2.2 (92))), (1, .ref (g.2.2 (t1))), (2, .ref (g.2.2 (89))), (3, .int (x3)), (4, .int (x4)), (5, .int (x5)), (6, .int (v0_)), (7, .int (v1_))] → W p l e (rmm 4 93) s m args below meth c H locs 0 0 Q (F0 m 40 ls []) := fun v0_ v1_ e H locs ls Y hl => ih (v0_, v1_) Y hl (lpl hw e)
    have KX0 := fun (v : Int32) (e : w = .inr v) => KX0 v (lpr hw e)
    unfold f_X5_findInner_l40 at h
    refine lv_iload X.1 X.2.1 (dk T_X5_findInner 22 rfl) (lv_at hl 7 rfl) ?_
    refine lv_aload_n X.1 X.2.1 (dk T_X5_findInner 23 rfl) rfl (lv_at hl 0 rfl) ?_
    refine gg X Y fl_X5_30 rfl rfl (dk T_X5_findInner 24 rfl) ?_
    refine lv_icmp_ge (tgt := 93) X.1 X.2.1 (dk T_X5_findInner 25 rfl) rfl (fun c5 => ?_) (fun c5 => ?_)
    · replace h := ipos c5 h
      exact KX0 z.1 (Option.some.inj h).symm _ _ _ Y (lv_sub hl [0, 1, 2, 3, 4, 5, 6] rfl)
    · replace h := ineg c5 h
      refine lv_aload_n X.1 X.2.1 (dk T_X5_findInner 26 rfl) rfl (lv_at hl 2 rfl) ?_
      refine lv_aload_n X.1 X.2.1 (dk T_X5_findInner 27 rfl) rfl (lv_at hl 0 rfl) ?_
      refine gg X Y fl_X5_15 rfl rfl (dk T_X5_findInner 28 rfl) ?_
      refine lv_iload X.1 X.2.1 (dk T_X5_findInner 29 rfl) (lv_at hl 7 rfl) ?_
      obtain ⟨q6, hq6, h⟩ := bs h
      refine gsIN (rest := [.ref (g.2.2 (89))]) X Y (c_X10_at 94 rfl z.2 σ hq6) cb_X5_40 hl.1 rfl rfl (Nat.le_of_ble_eq_true rfl) ⟨Nat.le_of_ble_eq_true rfl, Nat.le_of_ble_eq_true rfl⟩ (dk T_X5_findInner 30 rfl) (fun H locs Y => ?_)
      refine lv_iload X.1 X.2.1 (dk T_X5_findInner 31 rfl) (lv_at hl 4 rfl) ?_
      refine lv_aload_n X.1 X.2.1 (dk T_X5_findInner 32 rfl) rfl (lv_at hl 0 rfl) ?_
      refine gg X Y fl_X5_18 rfl rfl (dk T_X5_findInner 33 rfl) ?_
      refine lv_iload X.1 X.2.1 (dk T_X5_findInner 34 rfl) (lv_at hl 7 rfl) ?_
      obtain ⟨q7, hq7, h⟩ := bs h
      refine gsIN (rest := [.int (x4), .int (q6), .ref (g.2.2 (89))]) X Y (c_X10_at 95 rfl z.2 σ hq7) cb_X5_40 hl.1 rfl rfl (Nat.le_of_ble_eq_true rfl) ⟨Nat.le_of_ble_eq_true rfl, Nat.le_of_ble_eq_true rfl⟩ (dk T_X5_findInner 35 rfl) (fun H locs Y => ?_)
      refine lv_imul X.1 X.2.1 (dk T_X5_findInner 36 rfl) ?_
      refine lv_iadd X.1 X.2.1 (dk T_X5_findInner 37 rfl) ?_
      obtain ⟨q8, hq8, h⟩ := bs h
      refine gvI (rest := []) X Y (c_X4_isInHole (q6 + (x4 * q7)) σ hq8) cb_X5_94 rfl hl.1 rfl rfl (Nat.le_of_ble_eq_true rfl) ⟨Nat.le_of_ble_eq_true rfl, Nat.le_of_ble_eq_true rfl⟩ (dk T_X5_findInner 38 rfl) (fun H locs Y => ?_)
      refine lv_if_eq (tgt := 87) X.1 X.2.1 (dk T_X5_findInner 39 rfl) rfl (fun c9 => ?_) (fun c9 => ?_)
      · replace h := ipos c9 h
        exact w_X5_findInner_j87 X t1 hk1 x3 x4 x5 z.1 z.2 σ KB KX0 Y (lv_sub hl [0, 1, 2, 3, 4, 5, 6, 7] rfl) h
      · replace h := ineg c9 h
        refine lv_iload X.1 X.2.1 (dk T_X5_findInner 40 rfl) (lv_at hl 6 rfl) ?_
        refine lv_iconst (v := 1) X.1 X.2.1 (dk T_X5_findInner 41 rfl) ic_1 ?_
        refine lv_iload X.1 X.2.1 (dk T_X5_findInner 42 rfl) (lv_at hl 7 rfl) ?_
        refine lv_ishl X.1 X.2.1 (dk T_X5_findInner 43 rfl) ?_
        refine lv_ior X.1 X.2.1 (dk T_X5_findInner 44 rfl) ?_
        refine lv_istore (lv' := [(6, .int (z.1 ||| ((1 : Int32) <<< (z.2 &&& 31)))), (0, .ref (g.2.2 (92))), (1, .ref (g.2.2 (t1))), (2, .ref (g.2.2 (89))), (3, .int (x3)), (4, .int (x4)), (5, .int (x5)), (7, .int (z.2))]) X.1 X.2.1 (dk T_X5_findInner 45 rfl) hl (Nat.le_of_ble_eq_true rfl) rfl (fun ls hl => ?_)
        exact w_X5_findInner_j87 X t1 hk1 x3 x4 x5 (z.1 ||| ((1 : Int32) <<< (z.2 &&& 31))) z.2 σ KB KX0 Y (lv_sub hl [1, 2, 3, 4, 5, 6, 0, 7] rfl) h
def f_X5_findInner_l10 (t1 : Nat) (x3 : Int32) (x4 : Int32) (z : Int32 × St) : Option ((Int32 × St) ⊕ (St)) :=
  if (z.2 92 6) ≤ z.1 then some (.inr z.2) else (f_X10_at 93 z.1 z.2).bind fun q3 => (f_X4_findHoles t1 x3 q3 z.2).bind fun q4 => (lp (f_X5_findInner_l40 t1 x3 x4 z.1 q4) FU (0, 0)).bind fun q10 => (f_X10_put 96 z.1 q10 q4).bind fun q11 => some (.inl (z.1 + 1, q11))
set_option maxHeartbeats 4000000 in
set_option maxRecDepth 100000 in
theorem w_X5_findInner_l10 (X : Cx g RX5 cX5_findInner 8 none p s m args meth c) (t1 : Nat) (hk1 : kd t1 = 9) (x3 : Int32) (x4 : Int32) (σ : St) {r : St} (KX0 : ∀ (v : St), r = v → ∀ (H : Heap) (locs : List Loc) (ls : Array Slot), Wd g s v H locs → lv_has ls 8 [] → W p l e (rmm 4 93) s m args below meth c H locs 0 0 Q (F0 m 110 ls [])) : ∀ (n : Nat) (z : Int32 × St) {H : Heap} {locs : List Loc} {ls : Array Slot}, Wd g s z.2 H locs → lv_has ls 8 [(0, .ref (g.2.2 (92))), (1, .ref (g.2.2 (t1))), (2, .ref (g.2.2 (89))), (3, .int (x3)), (4, .int (x4)), (5, .int (z.1))] → lp (f_X5_findInner_l10 t1 x3 x4) n z = some r → W p l e (rmm 4 93) s m args below meth c H locs 0 0 Q (F0 m 10 ls []) := by
  intro n
  induction n with
  | zero => intro z H locs ls Y hl h; cases h
  | succ n ih =>
    intro z H locs ls Y hl h
    obtain ⟨w, h, hw⟩ := lps h
    have KB : ∀ (v0_ : Int32) (v1_ : St), w = .inl (v0_, v1_) → ∀ (H : Heap) (locs : List Loc) (ls : Array Slot), Wd g s v1_ H locs → lv_has ls 8 [(0, .ref (g.2.2 (92))), (1, .ref (g.2.2 (t1))), (2, .ref (g.2.2 (89))), (3, .int (x3)), (4, .int (x4)), (5, .int (v0_))] → W p l e (rmm 4 93) s m args below meth c H locs 0 0 Q (F0 m 10 ls []) := fun v0_ v1_ e H locs ls Y hl => ih (v0_, v1_) Y hl (lpl hw e)
    have KX0 := fun (v : St) (e : w = .inr v) => KX0 v (lpr hw e)
    unfold f_X5_findInner_l10 at h
    refine lv_iload X.1 X.2.1 (dk T_X5_findInner 6 rfl) (lv_at hl 5 rfl) ?_
    refine lv_aload_n X.1 X.2.1 (dk T_X5_findInner 7 rfl) rfl (lv_at hl 0 rfl) ?_
    refine gg X Y fl_X5_30 rfl rfl (dk T_X5_findInner 8 rfl) ?_
    refine lv_icmp_ge (tgt := 110) X.1 X.2.1 (dk T_X5_findInner 9 rfl) rfl (fun c2 => ?_) (fun c2 => ?_)
    · replace h := ipos c2 h
      exact KX0 z.2 (Option.some.inj h).symm _ _ _ Y (lv_sub hl [] rfl)
    · replace h := ineg c2 h
      refine lv_aload_n X.1 X.2.1 (dk T_X5_findInner 10 rfl) rfl (lv_at hl 2 rfl) ?_
      refine lv_aload_n X.1 X.2.1 (dk T_X5_findInner 11 rfl) rfl (lv_at hl 1 rfl) ?_
      refine lv_iload_n X.1 X.2.1 (dk T_X5_findInner 12 rfl) rfl (lv_at hl 3 rfl) ?_
      refine lv_aload_n X.1 X.2.1 (dk T_X5_findInner 13 rfl) rfl (lv_at hl 0 rfl) ?_
      refine gg X Y fl_X5_9 rfl rfl (dk T_X5_findInner 14 rfl) ?_
      refine lv_iload X.1 X.2.1 (dk T_X5_findInner 15 rfl) (lv_at hl 5 rfl) ?_
      obtain ⟨q3, hq3, h⟩ := bs h
      refine gsIN (rest := [.int (x3), .ref (g.2.2 (t1)), .ref (g.2.2 (89))]) X Y (c_X10_at 93 rfl z.1 z.2 hq3) cb_X5_40 hl.1 rfl rfl (Nat.le_of_ble_eq_true rfl) ⟨Nat.le_of_ble_eq_true rfl, Nat.le_of_ble_eq_true rfl⟩ (dk T_X5_findInner 16 rfl) (fun H locs Y => ?_)
      obtain ⟨q4, hq4, h⟩ := bs h
      refine gvV (rest := []) X Y (c_X4_findHoles t1 hk1 x3 q3 z.2 hq4) cb_X5_88 rfl hl.1 rfl rfl (Nat.le_of_ble_eq_true rfl) ⟨Nat.le_of_ble_eq_true rfl, Nat.le_of_ble_eq_true rfl⟩ (dk T_X5_findInner 17 rfl) (fun H locs Y => ?_)
      refine lv_iconst (v := 0) X.1 X.2.1 (dk T_X5_findInner 18 rfl) ic_0 ?_
      refine lv_istore (lv' := [(6, .int (0)), (0, .ref (g.2.2 (92))), (1, .ref (g.2.2 (t1))), (2, .ref (g.2.2 (89))), (3, .int (x3)), (4, .int (x4)), (5, .int (z.1))]) X.1 X.2.1 (dk T_X5_findInner 19 rfl) hl (Nat.le_of_ble_eq_true rfl) rfl (fun ls hl => ?_)
      refine lv_iconst (v := 0) X.1 X.2.1 (dk T_X5_findInner 20 rfl) ic_0 ?_
      refine lv_istore (lv' := [(7, .int (0)), (6, .int (0)), (0, .ref (g.2.2 (92))), (1, .ref (g.2.2 (t1))), (2, .ref (g.2.2 (89))), (3, .int (x3)), (4, .int (x4)), (5, .int (z.1))]) X.1 X.2.1 (dk T_X5_findInner 21 rfl) hl (Nat.le_of_ble_eq_true rfl) rfl (fun ls hl => ?_)
      obtain ⟨q10, hq10, h⟩ := bs h
      refine w_X5_findInner_l40 X t1 hk1 x3 x4 z.1 q4 (fun v e H locs ls Y hl => ?_) FU (0, 0) Y (lv_sub hl [2, 3, 4, 5, 6, 7, 1, 0] rfl) hq10
      · obtain rfl := e
        refine lv_aload_n X.1 X.2.1 (dk T_X5_findInner 48 rfl) rfl (lv_at hl 0 rfl) ?_
        refine gg X Y fl_X5_21 rfl rfl (dk T_X5_findInner 49 rfl) ?_
        refine lv_iload X.1 X.2.1 (dk T_X5_findInner 50 rfl) (lv_at hl 5 rfl) ?_
        refine lv_iload X.1 X.2.1 (dk T_X5_findInner 51 rfl) (lv_at hl 6 rfl) ?_
        obtain ⟨q11, hq11, h⟩ := bs h
        refine gsVN (rest := []) X Y (c_X10_put 96 rfl z.1 q10 q4 hq11) cb_X5_59 hl.1 rfl rfl (Nat.le_of_ble_eq_true rfl) ⟨Nat.le_of_ble_eq_true rfl, Nat.le_of_ble_eq_true rfl⟩ (dk T_X5_findInner 52 rfl) (fun H locs Y => ?_)
        refine lv_iinc (v := z.1 + 1) (lv' := [(5, .int (z.1 + 1)), (0, .ref (g.2.2 (92))), (1, .ref (g.2.2 (t1))), (2, .ref (g.2.2 (89))), (3, .int (x3)), (4, .int (x4)), (6, .int (q10))]) X.1 X.2.1 (dk T_X5_findInner 53 rfl) hl (k := 5) rfl (icx ic_1) (Nat.le_of_ble_eq_true rfl) rfl (fun ls hl => ?_)
        refine lv_goto (tgt := 10) X.1 X.2.1 (dk T_X5_findInner 54 rfl) rfl ?_
        exact KB (z.1 + 1) q11 (Option.some.inj h).symm _ _ _ Y (lv_sub hl [1, 2, 3, 4, 5, 0] rfl)
def f_X5_findInner_0 (t1 : Nat) (x3 : Int32) (σ : St) : Option (St) :=
  (f_X8_columnsOf t1 x3 σ).bind fun q1 => (lp (f_X5_findInner_l10 t1 x3 q1) FU (0, σ)).bind fun q12 => some q12
set_option maxHeartbeats 4000000 in
set_option maxRecDepth 100000 in
theorem w_X5_findInner_0 (X : Cx g RX5 cX5_findInner 8 none p s m args meth c) (t1 : Nat) (hk1 : kd t1 = 9) (x3 : Int32) (σ : St) {w : St} (KR : ∀ (H : Heap) (locs : List Loc) (ls : Array Slot) (pc : Nat), Wd g s w H locs → decode cX5_findInner pc = .ok (.return_, 1) → W p l e (rmm 4 93) s m args below meth c H locs 0 0 Q (F0 m pc ls [])) {H : Heap} {locs : List Loc} {ls : Array Slot} (Y : Wd g s σ H locs) (hl : lv_has ls 8 [(0, .ref (g.2.2 (92))), (1, .ref (g.2.2 (t1))), (2, .ref (g.2.2 (89))), (3, .int (x3))]) (h : f_X5_findInner_0 t1 x3 σ = some w) : W p l e (rmm 4 93) s m args below meth c H locs 0 0 Q (F0 m 0 ls []) := by
  unfold f_X5_findInner_0 at h
  refine lv_aload_n X.1 X.2.1 (dk T_X5_findInner 0 rfl) rfl (lv_at hl 1 rfl) ?_
  refine lv_iload_n X.1 X.2.1 (dk T_X5_findInner 1 rfl) rfl (lv_at hl 3 rfl) ?_
  obtain ⟨q1, hq1, h⟩ := bs h
  refine gvI (rest := []) X Y (c_X8_columnsOf t1 hk1 x3 σ hq1) cb_X5_67 hk1 hl.1 rfl rfl (Nat.le_of_ble_eq_true rfl) ⟨Nat.le_of_ble_eq_true rfl, Nat.le_of_ble_eq_true rfl⟩ (dk T_X5_findInner 2 rfl) (fun H locs Y => ?_)
  refine lv_istore (lv' := [(4, .int (q1)), (0, .ref (g.2.2 (92))), (1, .ref (g.2.2 (t1))), (2, .ref (g.2.2 (89))), (3, .int (x3))]) X.1 X.2.1 (dk T_X5_findInner 3 rfl) hl (Nat.le_of_ble_eq_true rfl) rfl (fun ls hl => ?_)
  refine lv_iconst (v := 0) X.1 X.2.1 (dk T_X5_findInner 4 rfl) ic_0 ?_
  refine lv_istore (lv' := [(5, .int (0)), (4, .int (q1)), (0, .ref (g.2.2 (92))), (1, .ref (g.2.2 (t1))), (2, .ref (g.2.2 (89))), (3, .int (x3))]) X.1 X.2.1 (dk T_X5_findInner 5 rfl) hl (Nat.le_of_ble_eq_true rfl) rfl (fun ls hl => ?_)
  obtain ⟨q12, hq12, h⟩ := bs h
  refine w_X5_findInner_l10 X t1 hk1 x3 q1 σ (fun v e H locs ls Y hl => ?_) FU (0, σ) Y (lv_sub hl [2, 3, 4, 5, 1, 0] rfl) hq12
  · obtain rfl := e
    obtain rfl := Option.some.inj h
    exact KR _ _ _ _ Y (dk T_X5_findInner 55 rfl)
def f_X5_findInner (t1 : Nat) (x3 : Int32) (σ : St) : Option (St) := f_X5_findInner_0 t1 x3 σ
set_option maxHeartbeats 4000000 in
set_option maxRecDepth 100000 in
theorem c_X5_findInner {l : Launch} {g : Geo} (t1 : Nat) (hk1 : kd t1 = 9) (x3 : Int32) (σ : St) {w : St} (h : f_X5_findInner t1 x3 σ = some w) : CtV l yX5_findInner cX5_findInner 8 none (rmm 4 93) g [.ref (g.2.2 (92)), .ref (g.2.2 (t1)), .ref (g.2.2 (89)), .int (x3)] σ w := enV (by decide) rfl (Nat.le_of_ble_eq_true rfl) (fun p e s m args below meth c Q X Y ls hl KR => w_X5_findInner_0 X t1 hk1 x3 σ KR Y hl h)
def I_X5_isAllowed : List (Nat × Instr × Nat) := [(0, .iload_n 1, 1), (1, .iload_n 2, 1), (2, .ishr, 1), (3, .iconst 1, 1), (4, .iand, 1), (5, .ifCond .ne 22, 3), (8, .aload_n 0, 1), (9, .getfield 21, 3), (12, .iload_n 2, 1), (13, .invokestatic 40, 3), (16, .iload_n 1, 1), (17, .iconst (-1), 1), (18, .ixor, 1), (19, .iand, 1), (20, .ifCond .ne 7, 3), (23, .iconst 1, 1), (24, .goto 4, 3), (27, .iconst 0, 1), (28, .ireturn, 1)]
set_option maxRecDepth 100000 in
theorem T_X5_isAllowed : ∀ q ∈ I_X5_isAllowed, decode cX5_isAllowed q.1 = .ok (q.2.1, q.2.2) := by decide +kernel
def f_X5_isAllowed_0 (x1 : Int32) (x2 : Int32) (σ : St) : Option (Int32) :=
  if ((x1 >>> (x2 &&& 31)) &&& 1) = 0 then (f_X10_at 96 x2 σ).bind fun q2 => if (q2 &&& (x1 ^^^ (-1))) = 0 then some 1 else some 0 else some 0
set_option maxHeartbeats 4000000 in
set_option maxRecDepth 100000 in
theorem w_X5_isAllowed_0 (X : Cx g RX5 cX5_isAllowed 3 (some .boolean) p s m args meth c) (x1 : Int32) (x2 : Int32) (σ : St) {w : Int32} (KR : ∀ (H : Heap) (locs : List Loc) (ls : Array Slot) (pc : Nat), Wd g s σ H locs → decode cX5_isAllowed pc = .ok (.ireturn, 1) → W p l e (rmm 1 21) s m args below meth c H locs 0 0 Q (F0 m pc ls [.int (w)])) {H : Heap} {locs : List Loc} {ls : Array Slot} (Y : Wd g s σ H locs) (hl : lv_has ls 3 [(0, .ref (g.2.2 (92))), (1, .int (x1)), (2, .int (x2))]) (h : f_X5_isAllowed_0 x1 x2 σ = some w) : W p l e (rmm 1 21) s m args below meth c H locs 0 0 Q (F0 m 0 ls []) := by
  unfold f_X5_isAllowed_0 at h
  refine lv_iload_n X.1 X.2.1 (dk T_X5_isAllowed 0 rfl) rfl (lv_at hl 1 rfl) ?_
  refine lv_iload_n X.1 X.2.1 (dk T_X5_isAllowed 1 rfl) rfl (lv_at hl 2 rfl) ?_
  refine lv_ishr X.1 X.2.1 (dk T_X5_isAllowed 2 rfl) ?_
  refine lv_iconst (v := 1) X.1 X.2.1 (dk T_X5_isAllowed 3 rfl) ic_1 ?_
  refine lv_iand X.1 X.2.1 (dk T_X5_isAllowed 4 rfl) ?_
  refine lv_if_ne (tgt := 27) X.1 X.2.1 (dk T_X5_isAllowed 5 rfl) rfl (fun c1 => ?_) (fun c1 => ?_)
  · replace h := ineg c1 h
    refine lv_iconst (v := 0) X.1 X.2.1 (dk T_X5_isAllowed 17 rfl) ic_0 ?_
    obtain rfl := Option.some.inj h
    exact KR _ _ _ _ Y (dk T_X5_isAllowed 18 rfl)
  · replace h := ipos c1 h
    refine lv_aload_n X.1 X.2.1 (dk T_X5_isAllowed 6 rfl) rfl (lv_at hl 0 rfl) ?_
    refine gg X Y fl_X5_21 rfl rfl (dk T_X5_isAllowed 7 rfl) ?_
    refine lv_iload_n X.1 X.2.1 (dk T_X5_isAllowed 8 rfl) rfl (lv_at hl 2 rfl) ?_
    obtain ⟨q2, hq2, h⟩ := bs h
    refine gsIN (rest := []) X Y (c_X10_at 96 rfl x2 σ hq2) cb_X5_40 hl.1 rfl rfl (Nat.le_of_ble_eq_true rfl) ⟨Nat.le_of_ble_eq_true rfl, Nat.le_of_ble_eq_true rfl⟩ (dk T_X5_isAllowed 9 rfl) (fun H locs Y => ?_)
    refine lv_iload_n X.1 X.2.1 (dk T_X5_isAllowed 10 rfl) rfl (lv_at hl 1 rfl) ?_
    refine lv_iconst (v := (-1)) X.1 X.2.1 (dk T_X5_isAllowed 11 rfl) ic_m1 ?_
    refine lv_ixor X.1 X.2.1 (dk T_X5_isAllowed 12 rfl) ?_
    refine lv_iand X.1 X.2.1 (dk T_X5_isAllowed 13 rfl) ?_
    refine lv_if_ne (tgt := 27) X.1 X.2.1 (dk T_X5_isAllowed 14 rfl) rfl (fun c3 => ?_) (fun c3 => ?_)
    · replace h := ineg c3 h
      refine lv_iconst (v := 0) X.1 X.2.1 (dk T_X5_isAllowed 17 rfl) ic_0 ?_
      obtain rfl := Option.some.inj h
      exact KR _ _ _ _ Y (dk T_X5_isAllowed 18 rfl)
    · replace h := ipos c3 h
      refine lv_iconst (v := 1) X.1 X.2.1 (dk T_X5_isAllowed 15 rfl) ic_1 ?_
      refine lv_goto (tgt := 28) X.1 X.2.1 (dk T_X5_isAllowed 16 rfl) rfl ?_
      obtain rfl := Option.some.inj h
      exact KR _ _ _ _ Y (dk T_X5_isAllowed 18 rfl)
def f_X5_isAllowed (x1 : Int32) (x2 : Int32) (σ : St) : Option (Int32) := bz (f_X5_isAllowed_0 x1 x2 σ)
set_option maxHeartbeats 4000000 in
set_option maxRecDepth 100000 in
theorem c_X5_isAllowed {l : Launch} {g : Geo} (x1 : Int32) (x2 : Int32) (σ : St) {w : Int32} (h : f_X5_isAllowed x1 x2 σ = some w) : CtI l yX5_isAllowed cX5_isAllowed 3 (some .boolean) (rmm 1 21) g [.ref (g.2.2 (92)), .int (x1), .int (x2)] σ w σ := by
  obtain ⟨h, hz⟩ := bz_s h
  exact enI .boolean (by decide) rfl (bz_n hz) (Nat.le_of_ble_eq_true rfl) (fun p e s m args below meth c Q X Y ls hl KR => w_X5_isAllowed_0 X x1 x2 σ KR Y hl h)
def I_X5_distance : List (Nat × Instr × Nat) := [(0, .iload_n 1, 1), (1, .iconst (-1), 1), (2, .if_icmp .ne 7, 3), (5, .iconst 0, 1), (6, .goto 11, 3), (9, .aload_n 0, 1), (10, .getfield 15, 3), (13, .iload_n 1, 1), (14, .invokestatic 40, 3), (17, .istore_n 3, 1), (18, .iload_n 1, 1), (19, .iconst (-1), 1), (20, .if_icmp .ne 7, 3), (23, .iconst 0, 1), (24, .goto 11, 3), (27, .aload_n 0, 1), (28, .getfield 18, 3), (31, .iload_n 1, 1), (32, .invokestatic 40, 3), (35, .istore 4, 2), (37, .aload_n 0, 1), (38, .getfield 15, 3), (41, .iload_n 2, 1), (42, .invokestatic 40, 3), (45, .iload_n 3, 1), (46, .isub, 1), (47, .invokestatic 103, 3), (50, .aload_n 0, 1), (51, .getfield 18, 3), (54, .iload_n 2, 1), (55, .invokestatic 40, 3), (58, .iload 4, 2), (60, .isub, 1), (61, .invokestatic 103, 3), (64, .iadd, 1), (65, .ireturn, 1)]
set_option maxRecDepth 100000 in
theorem T_X5_distance : ∀ q ∈ I_X5_distance, decode cX5_distance q.1 = .ok (q.2.1, q.2.2) := by decide +kernel
def f_X5_distance_j35 (x2 : Int32) (x3 : Int32) (s0 : Int32) (σ : St) : Option (Int32) :=
  (f_X10_at 94 x2 σ).bind fun q5 => (f_X10_at 95 x2 σ).bind fun q7 => some ((if 0 ≤ (q5 - x3) then (q5 - x3) else 0 - (q5 - x3)) + (if 0 ≤ (q7 - s0) then (q7 - s0) else 0 - (q7 - s0)))
set_option maxHeartbeats 4000000 in
set_option maxRecDepth 100000 in
theorem w_X5_distance_j35 (X : Cx g RX5 cX5_distance 5 (some .int) p s m args meth c) (x2 : Int32) (x3 : Int32) (s0 : Int32) (σ : St) {w : Int32} (KR : ∀ (H : Heap) (locs : List Loc) (ls : Array Slot) (pc : Nat), Wd g s σ H locs → decode cX5_distance pc = .ok (.ireturn, 1) → W p l e (rmm 1 21) s m args below meth c H locs 0 0 Q (F0 m pc ls [.int (w)])) {H : Heap} {locs : List Loc} {ls : Array Slot} (Y : Wd g s σ H locs) (hl : lv_has ls 5 [(0, .ref (g.2.2 (92))), (2, .int (x2)), (3, .int (x3))]) (h : f_X5_distance_j35 x2 x3 s0 σ = some w) : W p l e (rmm 1 21) s m args below meth c H locs 0 0 Q (F0 m 35 ls [.int (s0)]) := by
  unfold f_X5_distance_j35 at h
  refine lv_istore (lv' := [(4, .int (s0)), (0, .ref (g.2.2 (92))), (2, .int (x2)), (3, .int (x3))]) X.1 X.2.1 (dk T_X5_distance 19 rfl) hl (Nat.le_of_ble_eq_true rfl) rfl (fun ls hl => ?_)
  refine lv_aload_n X.1 X.2.1 (dk T_X5_distance 20 rfl) rfl (lv_at hl 1 rfl) ?_
  refine gg X Y fl_X5_15 rfl rfl (dk T_X5_distance 21 rfl) ?_
  refine lv_iload_n X.1 X.2.1 (dk T_X5_distance 22 rfl) rfl (lv_at hl 2 rfl) ?_
  obtain ⟨q5, hq5, h⟩ := bs h
  refine gsIN (rest := []) X Y (c_X10_at 94 rfl x2 σ hq5) cb_X5_40 hl.1 rfl rfl (Nat.le_of_ble_eq_true rfl) ⟨Nat.le_of_ble_eq_true rfl, Nat.le_of_ble_eq_true rfl⟩ (dk T_X5_distance 23 rfl) (fun H locs Y => ?_)
  refine lv_iload_n X.1 X.2.1 (dk T_X5_distance 24 rfl) rfl (lv_at hl 3 rfl) ?_
  refine lv_isub X.1 X.2.1 (dk T_X5_distance 25 rfl) ?_
  refine gm_abs X mb_X5_103 hl.1 (Nat.le_of_ble_eq_true rfl) (Nat.le_of_ble_eq_true rfl) (dk T_X5_distance 26 rfl) ?_
  refine lv_aload_n X.1 X.2.1 (dk T_X5_distance 27 rfl) rfl (lv_at hl 1 rfl) ?_
  refine gg X Y fl_X5_18 rfl rfl (dk T_X5_distance 28 rfl) ?_
  refine lv_iload_n X.1 X.2.1 (dk T_X5_distance 29 rfl) rfl (lv_at hl 2 rfl) ?_
  obtain ⟨q7, hq7, h⟩ := bs h
  refine gsIN (rest := [.int ((if 0 ≤ (q5 - x3) then (q5 - x3) else 0 - (q5 - x3)))]) X Y (c_X10_at 95 rfl x2 σ hq7) cb_X5_40 hl.1 rfl rfl (Nat.le_of_ble_eq_true rfl) ⟨Nat.le_of_ble_eq_true rfl, Nat.le_of_ble_eq_true rfl⟩ (dk T_X5_distance 30 rfl) (fun H locs Y => ?_)
  refine lv_iload X.1 X.2.1 (dk T_X5_distance 31 rfl) (lv_at hl 0 rfl) ?_
  refine lv_isub X.1 X.2.1 (dk T_X5_distance 32 rfl) ?_
  refine gm_abs X mb_X5_103 hl.1 (Nat.le_of_ble_eq_true rfl) (Nat.le_of_ble_eq_true rfl) (dk T_X5_distance 33 rfl) ?_
  refine lv_iadd X.1 X.2.1 (dk T_X5_distance 34 rfl) ?_
  obtain rfl := Option.some.inj h
  exact KR _ _ _ _ Y (dk T_X5_distance 35 rfl)
def f_X5_distance_j17 (x1 : Int32) (x2 : Int32) (s0 : Int32) (σ : St) : Option (Int32) :=
  if x1 = (-1) then f_X5_distance_j35 x2 s0 0 σ else (f_X10_at 95 x1 σ).bind fun q4 => f_X5_distance_j35 x2 s0 q4 σ
set_option maxHeartbeats 4000000 in
set_option maxRecDepth 100000 in
theorem w_X5_distance_j17 (X : Cx g RX5 cX5_distance 5 (some .int) p s m args meth c) (x1 : Int32) (x2 : Int32) (s0 : Int32) (σ : St) {w : Int32} (KR : ∀ (H : Heap) (locs : List Loc) (ls : Array Slot) (pc : Nat), Wd g s σ H locs → decode cX5_distance pc = .ok (.ireturn, 1) → W p l e (rmm 1 21) s m args below meth c H locs 0 0 Q (F0 m pc ls [.int (w)])) {H : Heap} {locs : List Loc} {ls : Array Slot} (Y : Wd g s σ H locs) (hl : lv_has ls 5 [(0, .ref (g.2.2 (92))), (1, .int (x1)), (2, .int (x2))]) (h : f_X5_distance_j17 x1 x2 s0 σ = some w) : W p l e (rmm 1 21) s m args below meth c H locs 0 0 Q (F0 m 17 ls [.int (s0)]) := by
  unfold f_X5_distance_j17 at h
  refine lv_istore_n (lv' := [(3, .int (s0)), (0, .ref (g.2.2 (92))), (1, .int (x1)), (2, .int (x2))]) X.1 X.2.1 (dk T_X5_distance 9 rfl) rfl hl (Nat.le_of_ble_eq_true rfl) rfl (fun ls hl => ?_)
  refine lv_iload_n X.1 X.2.1 (dk T_X5_distance 10 rfl) rfl (lv_at hl 2 rfl) ?_
  refine lv_iconst (v := (-1)) X.1 X.2.1 (dk T_X5_distance 11 rfl) ic_m1 ?_
  refine lv_icmp_ne (tgt := 27) X.1 X.2.1 (dk T_X5_distance 12 rfl) rfl (fun c3 => ?_) (fun c3 => ?_)
  · replace h := ineg c3 h
    refine lv_aload_n X.1 X.2.1 (dk T_X5_distance 15 rfl) rfl (lv_at hl 1 rfl) ?_
    refine gg X Y fl_X5_18 rfl rfl (dk T_X5_distance 16 rfl) ?_
    refine lv_iload_n X.1 X.2.1 (dk T_X5_distance 17 rfl) rfl (lv_at hl 2 rfl) ?_
    obtain ⟨q4, hq4, h⟩ := bs h
    refine gsIN (rest := []) X Y (c_X10_at 95 rfl x1 σ hq4) cb_X5_40 hl.1 rfl rfl (Nat.le_of_ble_eq_true rfl) ⟨Nat.le_of_ble_eq_true rfl, Nat.le_of_ble_eq_true rfl⟩ (dk T_X5_distance 18 rfl) (fun H locs Y => ?_)
    exact w_X5_distance_j35 X x2 s0 q4 σ KR Y (lv_sub hl [1, 3, 0] rfl) h
  · replace h := ipos c3 h
    refine lv_iconst (v := 0) X.1 X.2.1 (dk T_X5_distance 13 rfl) ic_0 ?_
    refine lv_goto (tgt := 35) X.1 X.2.1 (dk T_X5_distance 14 rfl) rfl ?_
    exact w_X5_distance_j35 X x2 s0 0 σ KR Y (lv_sub hl [1, 3, 0] rfl) h
def f_X5_distance_0 (x1 : Int32) (x2 : Int32) (σ : St) : Option (Int32) :=
  if x1 = (-1) then f_X5_distance_j17 x1 x2 0 σ else (f_X10_at 94 x1 σ).bind fun q2 => f_X5_distance_j17 x1 x2 q2 σ
set_option maxHeartbeats 4000000 in
set_option maxRecDepth 100000 in
theorem w_X5_distance_0 (X : Cx g RX5 cX5_distance 5 (some .int) p s m args meth c) (x1 : Int32) (x2 : Int32) (σ : St) {w : Int32} (KR : ∀ (H : Heap) (locs : List Loc) (ls : Array Slot) (pc : Nat), Wd g s σ H locs → decode cX5_distance pc = .ok (.ireturn, 1) → W p l e (rmm 1 21) s m args below meth c H locs 0 0 Q (F0 m pc ls [.int (w)])) {H : Heap} {locs : List Loc} {ls : Array Slot} (Y : Wd g s σ H locs) (hl : lv_has ls 5 [(0, .ref (g.2.2 (92))), (1, .int (x1)), (2, .int (x2))]) (h : f_X5_distance_0 x1 x2 σ = some w) : W p l e (rmm 1 21) s m args below meth c H locs 0 0 Q (F0 m 0 ls []) := by
  unfold f_X5_distance_0 at h
  refine lv_iload_n X.1 X.2.1 (dk T_X5_distance 0 rfl) rfl (lv_at hl 1 rfl) ?_
  refine lv_iconst (v := (-1)) X.1 X.2.1 (dk T_X5_distance 1 rfl) ic_m1 ?_
  refine lv_icmp_ne (tgt := 9) X.1 X.2.1 (dk T_X5_distance 2 rfl) rfl (fun c1 => ?_) (fun c1 => ?_)
  · replace h := ineg c1 h
    refine lv_aload_n X.1 X.2.1 (dk T_X5_distance 5 rfl) rfl (lv_at hl 0 rfl) ?_
    refine gg X Y fl_X5_15 rfl rfl (dk T_X5_distance 6 rfl) ?_
    refine lv_iload_n X.1 X.2.1 (dk T_X5_distance 7 rfl) rfl (lv_at hl 1 rfl) ?_
    obtain ⟨q2, hq2, h⟩ := bs h
    refine gsIN (rest := []) X Y (c_X10_at 94 rfl x1 σ hq2) cb_X5_40 hl.1 rfl rfl (Nat.le_of_ble_eq_true rfl) ⟨Nat.le_of_ble_eq_true rfl, Nat.le_of_ble_eq_true rfl⟩ (dk T_X5_distance 8 rfl) (fun H locs Y => ?_)
    exact w_X5_distance_j17 X x1 x2 q2 σ KR Y (lv_sub hl [0, 1, 2] rfl) h
  · replace h := ipos c1 h
    refine lv_iconst (v := 0) X.1 X.2.1 (dk T_X5_distance 3 rfl) ic_0 ?_
    refine lv_goto (tgt := 17) X.1 X.2.1 (dk T_X5_distance 4 rfl) rfl ?_
    exact w_X5_distance_j17 X x1 x2 0 σ KR Y (lv_sub hl [0, 1, 2] rfl) h
def f_X5_distance (x1 : Int32) (x2 : Int32) (σ : St) : Option (Int32) := f_X5_distance_0 x1 x2 σ
set_option maxHeartbeats 4000000 in
set_option maxRecDepth 100000 in
theorem c_X5_distance {l : Launch} {g : Geo} (x1 : Int32) (x2 : Int32) (σ : St) {w : Int32} (h : f_X5_distance x1 x2 σ = some w) : CtI l yX5_distance cX5_distance 5 (some .int) (rmm 1 21) g [.ref (g.2.2 (92)), .int (x1), .int (x2)] σ w σ := enI .int (by decide) rfl rfl (Nat.le_of_ble_eq_true rfl) (fun p e s m args below meth c Q X Y ls hl KR => w_X5_distance_0 X x1 x2 σ KR Y hl h)
def I_X5_choose : List (Nat × Instr × Nat) := [(0, .iconst 0, 1), (1, .istore 4, 2), (3, .aload_n 0, 1), (4, .ldc 98, 2), (6, .putfield 37, 3), (9, .iconst 0, 1), (10, .istore 5, 2), (12, .iload 5, 2), (14, .aload_n 0, 1), (15, .getfield 30, 3), (18, .if_icmp .ge 75, 3), (21, .aload_n 0, 1), (22, .iload_n 1, 1), (23, .iload 5, 2), (25, .invokevirtual 99, 3), (28, .ifCond .eq 59, 3), (31, .aload_n 0, 1), (32, .iload_n 2, 1), (33, .iload 5, 2), (35, .invokevirtual 63, 3), (38, .istore 6, 2), (40, .iload_n 3, 1), (41, .ifCond .eq 27, 3), (44, .iload 6, 2), (46, .aload_n 0, 1), (47, .getfield 27, 3), (50, .iload_n 1, 1), (51, .iconst 1, 1), (52, .iload 5, 2), (54, .ishl, 1), (55, .ior, 1), (56, .bipush 9, 2), (58, .imul, 1), (59, .iload 5, 2), (61, .iadd, 1), (62, .invokestatic 40, 3), (65, .iadd, 1), (66, .istore 6, 2), (68, .iload 6, 2), (70, .aload_n 0, 1), (71, .getfield 37, 3), (74, .if_icmp .ge 13, 3), (77, .aload_n 0, 1), (78, .iload 6, 2), (80, .putfield 37, 3), (83, .iload 5, 2), (85, .istore 4, 2), (87, .iinc 5 1, 3), (90, .goto (-78), 3), (93, .iload 4, 2), (95, .ireturn, 1)]
set_option maxRecDepth 100000 in
theorem T_X5_choose : ∀ q ∈ I_X5_choose, decode cX5_choose q.1 = .ok (q.2.1, q.2.2) := by decide +kernel
def f_X5_choose_j87 (x1 : Int32) (x2 : Int32) (x3 : Int32) (x4 : Int32) (x5 : Int32) (σ : St) : Option ((Int32 × Int32 × St) ⊕ (Int32 × St)) :=
  some (.inl (x4, x5 + 1, σ))
set_option maxHeartbeats 4000000 in
set_option maxRecDepth 100000 in
theorem w_X5_choose_j87 (X : Cx g RX5 cX5_choose 7 (some .int) p s m args meth c) (x1 : Int32) (x2 : Int32) (x3 : Int32) (x4 : Int32) (x5 : Int32) (σ : St) {w : (Int32 × Int32 × St) ⊕ (Int32 × St)} (KB : ∀ (v0_ : Int32) (v1_ : Int32) (v2_ : St), w = .inl (v0_, v1_, v2_) → ∀ (H : Heap) (locs : List Loc) (ls : Array Slot), Wd g s v2_ H locs → lv_has ls 7 [(0, .ref (g.2.2 (92))), (1, .int (x1)), (2, .int (x2)), (3, .int (x3)), (4, .int (v0_)), (5, .int (v1_))] → W p l e (rmm 2 45) s m args below meth c H locs 0 0 Q (F0 m 12 ls [])) (KX0 : ∀ (v0_ : Int32) (v1_ : St), w = .inr (v0_, v1_) → ∀ (H : Heap) (locs : List Loc) (ls : Array Slot), Wd g s v1_ H locs → lv_has ls 7 [(4, .int (v0_))] → W p l e (rmm 2 45) s m args below meth c H locs 0 0 Q (F0 m 93 ls [])) {H : Heap} {locs : List Loc} {ls : Array Slot} (Y : Wd g s σ H locs) (hl : lv_has ls 7 [(0, .ref (g.2.2 (92))), (1, .int (x1)), (2, .int (x2)), (3, .int (x3)), (4, .int (x4)), (5, .int (x5))]) (h : f_X5_choose_j87 x1 x2 x3 x4 x5 σ = some w) : W p l e (rmm 2 45) s m args below meth c H locs 0 0 Q (F0 m 87 ls []) := by
  unfold f_X5_choose_j87 at h
  refine lv_iinc (v := x5 + 1) (lv' := [(5, .int (x5 + 1)), (0, .ref (g.2.2 (92))), (1, .int (x1)), (2, .int (x2)), (3, .int (x3)), (4, .int (x4))]) X.1 X.2.1 (dk T_X5_choose 47 rfl) hl (k := 5) rfl (icx ic_1) (Nat.le_of_ble_eq_true rfl) rfl (fun ls hl => ?_)
  refine lv_goto (tgt := 12) X.1 X.2.1 (dk T_X5_choose 48 rfl) rfl ?_
  exact KB x4 (x5 + 1) σ (Option.some.inj h).symm _ _ _ Y (lv_sub hl [1, 2, 3, 4, 5, 0] rfl)
def f_X5_choose_j68 (x1 : Int32) (x2 : Int32) (x3 : Int32) (x4 : Int32) (x5 : Int32) (x6 : Int32) (σ : St) : Option ((Int32 × Int32 × St) ⊕ (Int32 × St)) :=
  if (σ 92 8) ≤ x6 then f_X5_choose_j87 x1 x2 x3 x4 x5 σ else f_X5_choose_j87 x1 x2 x3 x5 x5 (up σ 92 8 x6)
set_option maxHeartbeats 4000000 in
set_option maxRecDepth 100000 in
theorem w_X5_choose_j68 (X : Cx g RX5 cX5_choose 7 (some .int) p s m args meth c) (x1 : Int32) (x2 : Int32) (x3 : Int32) (x4 : Int32) (x5 : Int32) (x6 : Int32) (σ : St) {w : (Int32 × Int32 × St) ⊕ (Int32 × St)} (KB : ∀ (v0_ : Int32) (v1_ : Int32) (v2_ : St), w = .inl (v0_, v1_, v2_) → ∀ (H : Heap) (locs : List Loc) (ls : Array Slot), Wd g s v2_ H locs → lv_has ls 7 [(0, .ref (g.2.2 (92))), (1, .int (x1)), (2, .int (x2)), (3, .int (x3)), (4, .int (v0_)), (5, .int (v1_))] → W p l e (rmm 2 45) s m args below meth c H locs 0 0 Q (F0 m 12 ls [])) (KX0 : ∀ (v0_ : Int32) (v1_ : St), w = .inr (v0_, v1_) → ∀ (H : Heap) (locs : List Loc) (ls : Array Slot), Wd g s v1_ H locs → lv_has ls 7 [(4, .int (v0_))] → W p l e (rmm 2 45) s m args below meth c H locs 0 0 Q (F0 m 93 ls [])) {H : Heap} {locs : List Loc} {ls : Array Slot} (Y : Wd g s σ H locs) (hl : lv_has ls 7 [(0, .ref (g.2.2 (92))), (1, .int (x1)), (2, .int (x2)), (3, .int (x3)), (4, .int (x4)), (5, .int (x5)), (6, .int (x6))]) (h : f_X5_choose_j68 x1 x2 x3 x4 x5 x6 σ = some w) : W p l e (rmm 2 45) s m args below meth c H locs 0 0 Q (F0 m 68 ls []) := by
  unfold f_X5_choose_j68 at h
  refine lv_iload X.1 X.2.1 (dk T_X5_choose 38 rfl) (lv_at hl 6 rfl) ?_
  refine lv_aload_n X.1 X.2.1 (dk T_X5_choose 39 rfl) rfl (lv_at hl 0 rfl) ?_
  refine gg X Y fl_X5_37 rfl rfl (dk T_X5_choose 40 rfl) ?_
  refine lv_icmp_ge (tgt := 87) X.1 X.2.1 (dk T_X5_choose 41 rfl) rfl (fun c6 => ?_) (fun c6 => ?_)
  · replace h := ipos c6 h
    exact w_X5_choose_j87 X x1 x2 x3 x4 x5 σ KB KX0 Y (lv_sub hl [0, 1, 2, 3, 4, 5] rfl) h
  · replace h := ineg c6 h
    refine lv_aload_n X.1 X.2.1 (dk T_X5_choose 42 rfl) rfl (lv_at hl 0 rfl) ?_
    refine lv_iload X.1 X.2.1 (dk T_X5_choose 43 rfl) (lv_at hl 6 rfl) ?_
    refine gp X Y fp_X5_37 rfl (nar_int _) (dk T_X5_choose 44 rfl) (fun H locs Y => ?_)
    refine lv_iload X.1 X.2.1 (dk T_X5_choose 45 rfl) (lv_at hl 5 rfl) ?_
    refine lv_istore (lv' := [(4, .int (x5)), (0, .ref (g.2.2 (92))), (1, .int (x1)), (2, .int (x2)), (3, .int (x3)), (5, .int (x5)), (6, .int (x6))]) X.1 X.2.1 (dk T_X5_choose 46 rfl) hl (Nat.le_of_ble_eq_true rfl) rfl (fun ls hl => ?_)
    exact w_X5_choose_j87 X x1 x2 x3 x5 x5 (up σ 92 8 x6) KB KX0 Y (lv_sub hl [1, 2, 3, 4, 0, 5] rfl) h
def f_X5_choose_l12 (x1 : Int32) (x2 : Int32) (x3 : Int32) (z : Int32 × Int32 × St) : Option ((Int32 × Int32 × St) ⊕ (Int32 × St)) :=
  if (z.2.2 92 6) ≤ z.2.1 then some (.inr (z.1, z.2.2)) else (f_X5_isAllowed x1 z.2.1 z.2.2).bind fun q2 => if q2 = 0 then f_X5_choose_j87 x1 x2 x3 z.1 z.2.1 z.2.2 else (f_X5_distance x2 z.2.1 z.2.2).bind fun q4 => if x3 = 0 then f_X5_choose_j68 x1 x2 x3 z.1 z.2.1 q4 z.2.2 else (f_X10_at 98 (((x1 ||| ((1 : Int32) <<< (z.2.1 &&& 31))) * 9) + z.2.1) z.2.2).bind fun q7 => f_X5_choose_j68 x1 x2 x3 z.1 z.2.1 (q4 + q7) z.2.2
set_option maxHeartbeats 4000000 in
set_option maxRecDepth 100000 in
theorem w_X5_choose_l12 (X : Cx g RX5 cX5_choose 7 (some .int) p s m args meth c) (x1 : Int32) (x2 : Int32) (x3 : Int32) (σ : St) {r : Int32 × St} (KX0 : ∀ (v0_ : Int32) (v1_ : St), r = (v0_, v1_) → ∀ (H : Heap) (locs : List Loc) (ls : Array Slot), Wd g s v1_ H locs → lv_has ls 7 [(4, .int (v0_))] → W p l e (rmm 2 45) s m args below meth c H locs 0 0 Q (F0 m 93 ls [])) : ∀ (n : Nat) (z : Int32 × Int32 × St) {H : Heap} {locs : List Loc} {ls : Array Slot}, Wd g s z.2.2 H locs → lv_has ls 7 [(0, .ref (g.2.2 (92))), (1, .int (x1)), (2, .int (x2)), (3, .int (x3)), (4, .int (z.1)), (5, .int (z.2.1))] → lp (f_X5_choose_l12 x1 x2 x3) n z = some r → W p l e (rmm 2 45) s m args below meth c H locs 0 0 Q (F0 m 12 ls []) := by
  intro n
  induction n with
  | zero => intro z H locs ls Y hl h; cases h
  | succ n ih =>
    intro z H locs ls Y hl h
    obtain ⟨w, h, hw⟩ := lps h
    have KB : ∀ (v0_ : Int32) (v1_ : Int32) (v2_ : St), w = .inl (v0_, v1_, v2_) → ∀ (H : Heap) (locs : List Loc) (ls : Array Slot), Wd g s v2_ H locs → lv_has ls 7 [(0, .ref (g.2.2 (92))), (1, .int (x1)), (2, .int (x2)), (3, .int (x3)), (4, .int (v0_)), (5, .int (v1_))] → W p l e (rmm 2 45) s m args below meth c H locs 0 0 Q (F0 m 12 ls []) := fun v0_ v1_ v2_ e H locs ls Y hl => ih (v0_, v1_, v2_) Y hl (lpl hw e)
    have KX0 := fun (v0_ : Int32) (v1_ : St) (e : w = .inr (v0_, v1_)) => KX0 v0_ v1_ (lpr hw e)
    unfold f_X5_choose_l12 at h
    refine lv_iload X.1 X.2.1 (dk T_X5_choose 7 rfl) (lv_at hl 5 rfl) ?_
    refine lv_aload_n X.1 X.2.1 (dk T_X5_choose 8 rfl) rfl (lv_at hl 0 rfl) ?_
    refine gg X Y fl_X5_30 rfl rfl (dk T_X5_choose 9 rfl) ?_
    refine lv_icmp_ge (tgt := 93) X.1 X.2.1 (dk T_X5_choose 10 rfl) rfl (fun c1 => ?_) (fun c1 => ?_)
    · replace h := ipos c1 h
      exact KX0 z.1 z.2.2 (Option.some.inj h).symm _ _ _ Y (lv_sub hl [4] rfl)
    · replace h := ineg c1 h
      refine lv_aload_n X.1 X.2.1 (dk T_X5_choose 11 rfl) rfl (lv_at hl 0 rfl) ?_
      refine lv_iload_n X.1 X.2.1 (dk T_X5_choose 12 rfl) rfl (lv_at hl 1 rfl) ?_
      refine lv_iload X.1 X.2.1 (dk T_X5_choose 13 rfl) (lv_at hl 5 rfl) ?_
      obtain ⟨q2, hq2, h⟩ := bs h
      refine gvI (rest := []) X Y (c_X5_isAllowed x1 z.2.1 z.2.2 hq2) cb_X5_99 rfl hl.1 rfl rfl (Nat.le_of_ble_eq_true rfl) ⟨Nat.le_of_ble_eq_true rfl, Nat.le_of_ble_eq_true rfl⟩ (dk T_X5_choose 14 rfl) (fun H locs Y => ?_)
      refine lv_if_eq (tgt := 87) X.1 X.2.1 (dk T_X5_choose 15 rfl) rfl (fun c3 => ?_) (fun c3 => ?_)
      · replace h := ipos c3 h
        exact w_X5_choose_j87 X x1 x2 x3 z.1 z.2.1 z.2.2 KB KX0 Y (lv_sub hl [0, 1, 2, 3, 4, 5] rfl) h
      · replace h := ineg c3 h
        refine lv_aload_n X.1 X.2.1 (dk T_X5_choose 16 rfl) rfl (lv_at hl 0 rfl) ?_
        refine lv_iload_n X.1 X.2.1 (dk T_X5_choose 17 rfl) rfl (lv_at hl 2 rfl) ?_
        refine lv_iload X.1 X.2.1 (dk T_X5_choose 18 rfl) (lv_at hl 5 rfl) ?_
        obtain ⟨q4, hq4, h⟩ := bs h
        refine gvI (rest := []) X Y (c_X5_distance x2 z.2.1 z.2.2 hq4) cb_X5_63 rfl hl.1 rfl rfl (Nat.le_of_ble_eq_true rfl) ⟨Nat.le_of_ble_eq_true rfl, Nat.le_of_ble_eq_true rfl⟩ (dk T_X5_choose 19 rfl) (fun H locs Y => ?_)
        refine lv_istore (lv' := [(6, .int (q4)), (0, .ref (g.2.2 (92))), (1, .int (x1)), (2, .int (x2)), (3, .int (x3)), (4, .int (z.1)), (5, .int (z.2.1))]) X.1 X.2.1 (dk T_X5_choose 20 rfl) hl (Nat.le_of_ble_eq_true rfl) rfl (fun ls hl => ?_)
        refine lv_iload_n X.1 X.2.1 (dk T_X5_choose 21 rfl) rfl (lv_at hl 4 rfl) ?_
        refine lv_if_eq (tgt := 68) X.1 X.2.1 (dk T_X5_choose 22 rfl) rfl (fun c5 => ?_) (fun c5 => ?_)
        · replace h := ipos c5 h
          exact w_X5_choose_j68 X x1 x2 x3 z.1 z.2.1 q4 z.2.2 KB KX0 Y (lv_sub hl [1, 2, 3, 4, 5, 6, 0] rfl) h
        · replace h := ineg c5 h
          refine lv_iload X.1 X.2.1 (dk T_X5_choose 23 rfl) (lv_at hl 0 rfl) ?_
          refine lv_aload_n X.1 X.2.1 (dk T_X5_choose 24 rfl) rfl (lv_at hl 1 rfl) ?_
          refine gg X Y fl_X5_27 rfl rfl (dk T_X5_choose 25 rfl) ?_
          refine lv_iload_n X.1 X.2.1 (dk T_X5_choose 26 rfl) rfl (lv_at hl 2 rfl) ?_
          refine lv_iconst (v := 1) X.1 X.2.1 (dk T_X5_choose 27 rfl) ic_1 ?_
          refine lv_iload X.1 X.2.1 (dk T_X5_choose 28 rfl) (lv_at hl 6 rfl) ?_
          refine lv_ishl X.1 X.2.1 (dk T_X5_choose 29 rfl) ?_
          refine lv_ior X.1 X.2.1 (dk T_X5_choose 30 rfl) ?_
          refine lv_bipush (v := 9) X.1 X.2.1 (dk T_X5_choose 31 rfl) bp_9 ?_
          refine lv_imul X.1 X.2.1 (dk T_X5_choose 32 rfl) ?_
          refine lv_iload X.1 X.2.1 (dk T_X5_choose 33 rfl) (lv_at hl 6 rfl) ?_
          refine lv_iadd X.1 X.2.1 (dk T_X5_choose 34 rfl) ?_
          obtain ⟨q7, hq7, h⟩ := bs h
          refine gsIN (rest := [.int (q4)]) X Y (c_X10_at 98 rfl (((x1 ||| ((1 : Int32) <<< (z.2.1 &&& 31))) * 9) + z.2.1) z.2.2 hq7) cb_X5_40 hl.1 rfl rfl (Nat.le_of_ble_eq_true rfl) ⟨Nat.le_of_ble_eq_true rfl, Nat.le_of_ble_eq_true rfl⟩ (dk T_X5_choose 35 rfl) (fun H locs Y => ?_)
          refine lv_iadd X.1 X.2.1 (dk T_X5_choose 36 rfl) ?_
          refine lv_istore (lv' := [(6, .int (q4 + q7)), (0, .ref (g.2.2 (92))), (1, .int (x1)), (2, .int (x2)), (3, .int (x3)), (4, .int (z.1)), (5, .int (z.2.1))]) X.1 X.2.1 (dk T_X5_choose 37 rfl) hl (Nat.le_of_ble_eq_true rfl) rfl (fun ls hl => ?_)
          exact w_X5_choose_j68 X x1 x2 x3 z.1 z.2.1 (q4 + q7) z.2.2 KB KX0 Y (lv_sub hl [1, 2, 3, 4, 5, 6, 0] rfl) h
def f_X5_choose_0 (x1 : Int32) (x2 : Int32) (x3 : Int32) (σ : St) : Option (Int32 × St) :=
  (lp (f_X5_choose_l12 x1 x2 x3) FU (0, 0, up σ 92 8 1000000)).bind fun q8 => some (q8.1, q8.2)
set_option maxHeartbeats 4000000 in
set_option maxRecDepth 100000 in
theorem w_X5_choose_0 (X : Cx g RX5 cX5_choose 7 (some .int) p s m args meth c) (x1 : Int32) (x2 : Int32) (x3 : Int32) (σ : St) {w : Int32 × St} (KR : ∀ (H : Heap) (locs : List Loc) (ls : Array Slot) (pc : Nat), Wd g s w.2 H locs → decode cX5_choose pc = .ok (.ireturn, 1) → W p l e (rmm 2 45) s m args below meth c H locs 0 0 Q (F0 m pc ls [.int (w.1)])) {H : Heap} {locs : List Loc} {ls : Array Slot} (Y : Wd g s σ H locs) (hl : lv_has ls 7 [(0, .ref (g.2.2 (92))), (1, .int (x1)), (2, .int (x2)), (3, .int (x3))]) (h : f_X5_choose_0 x1 x2 x3 σ = some w) : W p l e (rmm 2 45) s m args below meth c H locs 0 0 Q (F0 m 0 ls []) := by
  unfold f_X5_choose_0 at h
  refine lv_iconst (v := 0) X.1 X.2.1 (dk T_X5_choose 0 rfl) ic_0 ?_
  refine lv_istore (lv' := [(4, .int (0)), (0, .ref (g.2.2 (92))), (1, .int (x1)), (2, .int (x2)), (3, .int (x3))]) X.1 X.2.1 (dk T_X5_choose 1 rfl) hl (Nat.le_of_ble_eq_true rfl) rfl (fun ls hl => ?_)
  refine lv_aload_n X.1 X.2.1 (dk T_X5_choose 2 rfl) rfl (lv_at hl 1 rfl) ?_
  refine lv_ldc (v := 1000000) X.1 X.2.1 X.2.2.2.2.1 (X.2.2.2.2.2.1 _ (mw 31 21 rfl rfl)) (dk T_X5_choose 3 rfl) ?_
  refine gp X Y fp_X5_37 rfl (nar_int _) (dk T_X5_choose 4 rfl) (fun H locs Y => ?_)
  refine lv_iconst (v := 0) X.1 X.2.1 (dk T_X5_choose 5 rfl) ic_0 ?_
  refine lv_istore (lv' := [(5, .int (0)), (4, .int (0)), (0, .ref (g.2.2 (92))), (1, .int (x1)), (2, .int (x2)), (3, .int (x3))]) X.1 X.2.1 (dk T_X5_choose 6 rfl) hl (Nat.le_of_ble_eq_true rfl) rfl (fun ls hl => ?_)
  obtain ⟨q8, hq8, h⟩ := bs h
  refine w_X5_choose_l12 X x1 x2 x3 σ (fun v0_ v1_ e H locs ls Y hl => ?_) FU (0, 0, up σ 92 8 1000000) Y (lv_sub hl [2, 3, 4, 5, 1, 0] rfl) hq8
  · obtain ⟨rfl, rfl⟩ : v0_ = q8.1 ∧ v1_ = q8.2 := ⟨by rw [e], by rw [e]⟩
    refine lv_iload X.1 X.2.1 (dk T_X5_choose 49 rfl) (lv_at hl 0 rfl) ?_
    obtain rfl := Option.some.inj h
    exact KR _ _ _ _ Y (dk T_X5_choose 50 rfl)
def f_X5_choose (x1 : Int32) (x2 : Int32) (x3 : Int32) (σ : St) : Option (Int32 × St) := f_X5_choose_0 x1 x2 x3 σ
set_option maxHeartbeats 4000000 in
set_option maxRecDepth 100000 in
theorem c_X5_choose {l : Launch} {g : Geo} (x1 : Int32) (x2 : Int32) (x3 : Int32) (σ : St) {w : Int32 × St} (h : f_X5_choose x1 x2 x3 σ = some w) : CtI l yX5_choose cX5_choose 7 (some .int) (rmm 2 45) g [.ref (g.2.2 (92)), .int (x1), .int (x2), .int (x3)] σ w.1 w.2 := enI .int (by decide) rfl rfl (Nat.le_of_ble_eq_true rfl) (fun p e s m args below meth c Q X Y ls hl KR => w_X5_choose_0 X x1 x2 x3 σ KR Y hl h)
def I_X5_findRests : List (Nat × Instr × Nat) := [(0, .iconst 1, 1), (1, .aload_n 0, 1), (2, .getfield 30, 3), (5, .ishl, 1), (6, .iconst 1, 1), (7, .isub, 1), (8, .istore_n 1, 1), (9, .iload_n 1, 1), (10, .istore_n 2, 1), (11, .iload_n 2, 1), (12, .ifCond .le 68, 3), (15, .iconst 0, 1), (16, .istore_n 3, 1), (17, .iload_n 3, 1), (18, .aload_n 0, 1), (19, .getfield 30, 3), (22, .if_icmp .ge 52, 3), (25, .iload_n 2, 1), (26, .iload_n 3, 1), (27, .ishr, 1), (28, .iconst 1, 1), (29, .iand, 1), (30, .iconst 1, 1), (31, .if_icmp .ne 37, 3), (34, .aload_n 0, 1), (35, .iload_n 2, 1), (36, .iload_n 3, 1), (37, .iconst 1, 1), (38, .invokevirtual 55, 3), (41, .pop, 1), (42, .aload_n 0, 1), (43, .getfield 27, 3), (46, .iload_n 2, 1), (47, .bipush 9, 2), (49, .imul, 1), (50, .iload_n 3, 1), (51, .iadd, 1), (52, .iload_n 2, 1), (53, .iload_n 1, 1), (54, .if_icmp .ne 7, 3), (57, .iconst 0, 1), (58, .goto 7, 3), (61, .aload_n 0, 1), (62, .getfield 37, 3), (65, .invokestatic 59, 3), (68, .iinc 3 1, 3), (71, .goto (-54), 3), (74, .iinc 2 (-1), 3), (77, .goto (-66), 3), (80, .return_, 1)]
set_option maxRecDepth 100000 in
theorem T_X5_findRests : ∀ q ∈ I_X5_findRests, decode cX5_findRests q.1 = .ok (q.2.1, q.2.2) := by decide +kernel
def f_X5_findRests_j68 (x1 : Int32) (x2 : Int32) (x3 : Int32) (σ : St) : Option ((Int32 × St) ⊕ (St)) :=
  some (.inl (x3 + 1, σ))
set_option maxHeartbeats 4000000 in
set_option maxRecDepth 100000 in
theorem w_X5_findRests_j68 (X : Cx g RX5 cX5_findRests 4 none p s m args meth c) (x1 : Int32) (x2 : Int32) (x3 : Int32) (σ : St) {w : (Int32 × St) ⊕ (St)} (KB : ∀ (v0_ : Int32) (v1_ : St), w = .inl (v0_, v1_) → ∀ (H : Heap) (locs : List Loc) (ls : Array Slot), Wd g s v1_ H locs → lv_has ls 4 [(0, .ref (g.2.2 (92))), (1, .int (x1)), (2, .int (x2)), (3, .int (v0_))] → W p l e (rmm 3 71) s m args below meth c H locs 0 0 Q (F0 m 17 ls [])) (KX0 : ∀ (v : St), w = .inr v → ∀ (H : Heap) (locs : List Loc) (ls : Array Slot), Wd g s v H locs → lv_has ls 4 [(0, .ref (g.2.2 (92))), (1, .int (x1)), (2, .int (x2))] → W p l e (rmm 3 71) s m args below meth c H locs 0 0 Q (F0 m 74 ls [])) {H : Heap} {locs : List Loc} {ls : Array Slot} (Y : Wd g s σ H locs) (hl : lv_has ls 4 [(0, .ref (g.2.2 (92))), (1, .int (x1)), (2, .int (x2)), (3, .int (x3))]) (h : f_X5_findRests_j68 x1 x2 x3 σ = some w) : W p l e (rmm 3 71) s m args below meth c H locs 0 0 Q (F0 m 68 ls []) := by
  unfold f_X5_findRests_j68 at h
  refine lv_iinc (v := x3 + 1) (lv' := [(3, .int (x3 + 1)), (0, .ref (g.2.2 (92))), (1, .int (x1)), (2, .int (x2))]) X.1 X.2.1 (dk T_X5_findRests 45 rfl) hl (k := 3) rfl (icx ic_1) (Nat.le_of_ble_eq_true rfl) rfl (fun ls hl => ?_)
  refine lv_goto (tgt := 17) X.1 X.2.1 (dk T_X5_findRests 46 rfl) rfl ?_
  exact KB (x3 + 1) σ (Option.some.inj h).symm _ _ _ Y (lv_sub hl [1, 2, 3, 0] rfl)
def f_X5_findRests_j65 (x1 : Int32) (x2 : Int32) (x3 : Int32) (s0 : Int32) (s1 : Int32) (σ : St) : Option ((Int32 × St) ⊕ (St)) :=
  (f_X10_put 98 s1 s0 σ).bind fun q6 => f_X5_findRests_j68 x1 x2 x3 q6
set_option maxHeartbeats 4000000 in
set_option maxRecDepth 100000 in
theorem w_X5_findRests_j65 (X : Cx g RX5 cX5_findRests 4 none p s m args meth c) (x1 : Int32) (x2 : Int32) (x3 : Int32) (s0 : Int32) (s1 : Int32) (σ : St) {w : (Int32 × St) ⊕ (St)} (KB : ∀ (v0_ : Int32) (v1_ : St), w = .inl (v0_, v1_) → ∀ (H : Heap) (locs : List Loc) (ls : Array Slot), Wd g s v1_ H locs → lv_has ls 4 [(0, .ref (g.2.2 (92))), (1, .int (x1)), (2, .int (x2)), (3, .int (v0_))] → W p l e (rmm 3 71) s m args below meth c H locs 0 0 Q (F0 m 17 ls [])) (KX0 : ∀ (v : St), w = .inr v → ∀ (H : Heap) (locs : List Loc) (ls : Array Slot), Wd g s v H locs → lv_has ls 4 [(0, .ref (g.2.2 (92))), (1, .int (x1)), (2, .int (x2))] → W p l e (rmm 3 71) s m args below meth c H locs 0 0 Q (F0 m 74 ls [])) {H : Heap} {locs : List Loc} {ls : Array Slot} (Y : Wd g s σ H locs) (hl : lv_has ls 4 [(0, .ref (g.2.2 (92))), (1, .int (x1)), (2, .int (x2)), (3, .int (x3))]) (h : f_X5_findRests_j65 x1 x2 x3 s0 s1 σ = some w) : W p l e (rmm 3 71) s m args below meth c H locs 0 0 Q (F0 m 65 ls [.int (s0), .int (s1), .ref (g.2.2 (98))]) := by
  unfold f_X5_findRests_j65 at h
  obtain ⟨q6, hq6, h⟩ := bs h
  refine gsVN (rest := []) X Y (c_X10_put 98 rfl s1 s0 σ hq6) cb_X5_59 hl.1 rfl rfl (Nat.le_of_ble_eq_true rfl) ⟨Nat.le_of_ble_eq_true rfl, Nat.le_of_ble_eq_true rfl⟩ (dk T_X5_findRests 44 rfl) (fun H locs Y => ?_)
  exact w_X5_findRests_j68 X x1 x2 x3 q6 KB KX0 Y (lv_sub hl [0, 1, 2, 3] rfl) h
def f_X5_findRests_l17 (x1 : Int32) (x2 : Int32) (z : Int32 × St) : Option ((Int32 × St) ⊕ (St)) :=
  if (z.2 92 6) ≤ z.1 then some (.inr z.2) else if ((x2 >>> (z.1 &&& 31)) &&& 1) = 1 then (f_X5_choose x2 z.1 1 z.2).bind fun q4 => if x2 = x1 then f_X5_findRests_j65 x1 x2 z.1 0 ((x2 * 9) + z.1) q4.2 else f_X5_findRests_j65 x1 x2 z.1 (q4.2 92 8) ((x2 * 9) + z.1) q4.2 else f_X5_findRests_j68 x1 x2 z.1 z.2
set_option maxHeartbeats 4000000 in
set_option maxRecDepth 100000 in
theorem w_X5_findRests_l17 (X : Cx g RX5 cX5_findRests 4 none p s m args meth c) (x1 : Int32) (x2 : Int32) (σ : St) {r : St} (KX0 : ∀ (v : St), r = v → ∀ (H : Heap) (locs : List Loc) (ls : Array Slot), Wd g s v H locs → lv_has ls 4 [(0, .ref (g.2.2 (92))), (1, .int (x1)), (2, .int (x2))] → W p l e (rmm 3 71) s m args below meth c H locs 0 0 Q (F0 m 74 ls [])) : ∀ (n : Nat) (z : Int32 × St) {H : Heap} {locs : List Loc} {ls : Array Slot}, Wd g s z.2 H locs → lv_has ls 4 [(0, .ref (g.2.2 (92))), (1, .int (x1)), (2, .int (x2)), (3, .int (z.1))] → lp (f_X5_findRests_l17 x1 x2) n z = some r → W p l e (rmm 3 71) s m args below meth c H locs 0 0 Q (F0 m 17 ls []) := by
  intro n
  induction n with
  | zero => intro z H locs ls Y hl h; cases h
  | succ n ih =>
    intro z H locs ls Y hl h
    obtain ⟨w, h, hw⟩ := lps h
    have KB : ∀ (v0_ : Int32) (v1_ : St), w = .inl (v0_, v1_) → ∀ (H : Heap) (locs : List Loc) (ls : Array Slot), Wd g s v1_ H locs → lv_has ls 4 [(0, .ref (g.2.2 (92))), (1, .int (x1)), (2, .int (x2)), (3, .int (v0_))] → W p l e (rmm 3 71) s m args below meth c H locs 0 0 Q (F0 m 17 ls []) := fun v0_ v1_ e H locs ls Y hl => ih (v0_, v1_) Y hl (lpl hw e)
    have KX0 := fun (v : St) (e : w = .inr v) => KX0 v (lpr hw e)
    unfold f_X5_findRests_l17 at h
    refine lv_iload_n X.1 X.2.1 (dk T_X5_findRests 13 rfl) rfl (lv_at hl 3 rfl) ?_
    refine lv_aload_n X.1 X.2.1 (dk T_X5_findRests 14 rfl) rfl (lv_at hl 0 rfl) ?_
    refine gg X Y fl_X5_30 rfl rfl (dk T_X5_findRests 15 rfl) ?_
    refine lv_icmp_ge (tgt := 74) X.1 X.2.1 (dk T_X5_findRests 16 rfl) rfl (fun c2 => ?_) (fun c2 => ?_)
    · replace h := ipos c2 h
      exact KX0 z.2 (Option.some.inj h).symm _ _ _ Y (lv_sub hl [0, 1, 2] rfl)
    · replace h := ineg c2 h
      refine lv_iload_n X.1 X.2.1 (dk T_X5_findRests 17 rfl) rfl (lv_at hl 2 rfl) ?_
      refine lv_iload_n X.1 X.2.1 (dk T_X5_findRests 18 rfl) rfl (lv_at hl 3 rfl) ?_
      refine lv_ishr X.1 X.2.1 (dk T_X5_findRests 19 rfl) ?_
      refine lv_iconst (v := 1) X.1 X.2.1 (dk T_X5_findRests 20 rfl) ic_1 ?_
      refine lv_iand X.1 X.2.1 (dk T_X5_findRests 21 rfl) ?_
      refine lv_iconst (v := 1) X.1 X.2.1 (dk T_X5_findRests 22 rfl) ic_1 ?_
      refine lv_icmp_ne (tgt := 68) X.1 X.2.1 (dk T_X5_findRests 23 rfl) rfl (fun c3 => ?_) (fun c3 => ?_)
      · replace h := ineg c3 h
        exact w_X5_findRests_j68 X x1 x2 z.1 z.2 KB KX0 Y (lv_sub hl [0, 1, 2, 3] rfl) h
      · replace h := ipos c3 h
        refine lv_aload_n X.1 X.2.1 (dk T_X5_findRests 24 rfl) rfl (lv_at hl 0 rfl) ?_
        refine lv_iload_n X.1 X.2.1 (dk T_X5_findRests 25 rfl) rfl (lv_at hl 2 rfl) ?_
        refine lv_iload_n X.1 X.2.1 (dk T_X5_findRests 26 rfl) rfl (lv_at hl 3 rfl) ?_
        refine lv_iconst (v := 1) X.1 X.2.1 (dk T_X5_findRests 27 rfl) ic_1 ?_
        obtain ⟨q4, hq4, h⟩ := bs h
        refine gvI (rest := []) X Y (c_X5_choose x2 z.1 1 z.2 hq4) cb_X5_55 rfl hl.1 rfl rfl (Nat.le_of_ble_eq_true rfl) ⟨Nat.le_of_ble_eq_true rfl, Nat.le_of_ble_eq_true rfl⟩ (dk T_X5_findRests 28 rfl) (fun H locs Y => ?_)
        refine lv_pop X.1 X.2.1 (dk T_X5_findRests 29 rfl) rfl ?_
        refine lv_aload_n X.1 X.2.1 (dk T_X5_findRests 30 rfl) rfl (lv_at hl 0 rfl) ?_
        refine gg X Y fl_X5_27 rfl rfl (dk T_X5_findRests 31 rfl) ?_
        refine lv_iload_n X.1 X.2.1 (dk T_X5_findRests 32 rfl) rfl (lv_at hl 2 rfl) ?_
        refine lv_bipush (v := 9) X.1 X.2.1 (dk T_X5_findRests 33 rfl) bp_9 ?_
        refine lv_imul X.1 X.2.1 (dk T_X5_findRests 34 rfl) ?_
        refine lv_iload_n X.1 X.2.1 (dk T_X5_findRests 35 rfl) rfl (lv_at hl 3 rfl) ?_
        refine lv_iadd X.1 X.2.1 (dk T_X5_findRests 36 rfl) ?_
        refine lv_iload_n X.1 X.2.1 (dk T_X5_findRests 37 rfl) rfl (lv_at hl 2 rfl) ?_
        refine lv_iload_n X.1 X.2.1 (dk T_X5_findRests 38 rfl) rfl (lv_at hl 1 rfl) ?_
        refine lv_icmp_ne (tgt := 61) X.1 X.2.1 (dk T_X5_findRests 39 rfl) rfl (fun c5 => ?_) (fun c5 => ?_)
        · replace h := ineg c5 h
          refine lv_aload_n X.1 X.2.1 (dk T_X5_findRests 42 rfl) rfl (lv_at hl 0 rfl) ?_
          refine gg X Y fl_X5_37 rfl rfl (dk T_X5_findRests 43 rfl) ?_
          exact w_X5_findRests_j65 X x1 x2 z.1 (q4.2 92 8) ((x2 * 9) + z.1) q4.2 KB KX0 Y (lv_sub hl [0, 1, 2, 3] rfl) h
        · replace h := ipos c5 h
          refine lv_iconst (v := 0) X.1 X.2.1 (dk T_X5_findRests 40 rfl) ic_0 ?_
          refine lv_goto (tgt := 65) X.1 X.2.1 (dk T_X5_findRests 41 rfl) rfl ?_
          exact w_X5_findRests_j65 X x1 x2 z.1 0 ((x2 * 9) + z.1) q4.2 KB KX0 Y (lv_sub hl [0, 1, 2, 3] rfl) h
def f_X5_findRests_l11 (x1 : Int32) (z : Int32 × St) : Option ((Int32 × St) ⊕ (St)) :=
  if z.1 ≤ 0 then some (.inr z.2) else (lp (f_X5_findRests_l17 x1 z.1) FU (0, z.2)).bind fun q7 => some (.inl (z.1 + (-1), q7))
set_option maxHeartbeats 4000000 in
set_option maxRecDepth 100000 in
theorem w_X5_findRests_l11 (X : Cx g RX5 cX5_findRests 4 none p s m args meth c) (x1 : Int32) (σ : St) {r : St} (KX0 : ∀ (v : St), r = v → ∀ (H : Heap) (locs : List Loc) (ls : Array Slot), Wd g s v H locs → lv_has ls 4 [] → W p l e (rmm 3 71) s m args below meth c H locs 0 0 Q (F0 m 80 ls [])) : ∀ (n : Nat) (z : Int32 × St) {H : Heap} {locs : List Loc} {ls : Array Slot}, Wd g s z.2 H locs → lv_has ls 4 [(0, .ref (g.2.2 (92))), (1, .int (x1)), (2, .int (z.1))] → lp (f_X5_findRests_l11 x1) n z = some r → W p l e (rmm 3 71) s m args below meth c H locs 0 0 Q (F0 m 11 ls []) := by
  intro n
  induction n with
  | zero => intro z H locs ls Y hl h; cases h
  | succ n ih =>
    intro z H locs ls Y hl h
    obtain ⟨w, h, hw⟩ := lps h
    have KB : ∀ (v0_ : Int32) (v1_ : St), w = .inl (v0_, v1_) → ∀ (H : Heap) (locs : List Loc) (ls : Array Slot), Wd g s v1_ H locs → lv_has ls 4 [(0, .ref (g.2.2 (92))), (1, .int (x1)), (2, .int (v0_))] → W p l e (rmm 3 71) s m args below meth c H locs 0 0 Q (F0 m 11 ls []) := fun v0_ v1_ e H locs ls Y hl => ih (v0_, v1_) Y hl (lpl hw e)
    have KX0 := fun (v : St) (e : w = .inr v) => KX0 v (lpr hw e)
    unfold f_X5_findRests_l11 at h
    refine lv_iload_n X.1 X.2.1 (dk T_X5_findRests 9 rfl) rfl (lv_at hl 2 rfl) ?_
    refine lv_if_le (tgt := 80) X.1 X.2.1 (dk T_X5_findRests 10 rfl) rfl (fun c1 => ?_) (fun c1 => ?_)
    · replace h := ipos c1 h
      exact KX0 z.2 (Option.some.inj h).symm _ _ _ Y (lv_sub hl [] rfl)
    · replace h := ineg c1 h
      refine lv_iconst (v := 0) X.1 X.2.1 (dk T_X5_findRests 11 rfl) ic_0 ?_
      refine lv_istore_n (lv' := [(3, .int (0)), (0, .ref (g.2.2 (92))), (1, .int (x1)), (2, .int (z.1))]) X.1 X.2.1 (dk T_X5_findRests 12 rfl) rfl hl (Nat.le_of_ble_eq_true rfl) rfl (fun ls hl => ?_)
      obtain ⟨q7, hq7, h⟩ := bs h
      refine w_X5_findRests_l17 X x1 z.1 σ (fun v e H locs ls Y hl => ?_) FU (0, z.2) Y (lv_sub hl [1, 2, 3, 0] rfl) hq7
      · obtain rfl := e
        refine lv_iinc (v := z.1 + (-1)) (lv' := [(2, .int (z.1 + (-1))), (0, .ref (g.2.2 (92))), (1, .int (x1))]) X.1 X.2.1 (dk T_X5_findRests 47 rfl) hl (k := 2) rfl (icx ic_m1) (Nat.le_of_ble_eq_true rfl) rfl (fun ls hl => ?_)
        refine lv_goto (tgt := 11) X.1 X.2.1 (dk T_X5_findRests 48 rfl) rfl ?_
        exact KB (z.1 + (-1)) q7 (Option.some.inj h).symm _ _ _ Y (lv_sub hl [1, 2, 0] rfl)
def f_X5_findRests_0 (σ : St) : Option (St) :=
  (lp (f_X5_findRests_l11 (((1 : Int32) <<< ((σ 92 6) &&& 31)) - 1)) FU (((1 : Int32) <<< ((σ 92 6) &&& 31)) - 1, σ)).bind fun q8 => some q8
set_option maxHeartbeats 4000000 in
set_option maxRecDepth 100000 in
theorem w_X5_findRests_0 (X : Cx g RX5 cX5_findRests 4 none p s m args meth c) (σ : St) {w : St} (KR : ∀ (H : Heap) (locs : List Loc) (ls : Array Slot) (pc : Nat), Wd g s w H locs → decode cX5_findRests pc = .ok (.return_, 1) → W p l e (rmm 3 71) s m args below meth c H locs 0 0 Q (F0 m pc ls [])) {H : Heap} {locs : List Loc} {ls : Array Slot} (Y : Wd g s σ H locs) (hl : lv_has ls 4 [(0, .ref (g.2.2 (92)))]) (h : f_X5_findRests_0 σ = some w) : W p l e (rmm 3 71) s m args below meth c H locs 0 0 Q (F0 m 0 ls []) := by
  unfold f_X5_findRests_0 at h
  refine lv_iconst (v := 1) X.1 X.2.1 (dk T_X5_findRests 0 rfl) ic_1 ?_
  refine lv_aload_n X.1 X.2.1 (dk T_X5_findRests 1 rfl) rfl (lv_at hl 0 rfl) ?_
  refine gg X Y fl_X5_30 rfl rfl (dk T_X5_findRests 2 rfl) ?_
  refine lv_ishl X.1 X.2.1 (dk T_X5_findRests 3 rfl) ?_
  refine lv_iconst (v := 1) X.1 X.2.1 (dk T_X5_findRests 4 rfl) ic_1 ?_
  refine lv_isub X.1 X.2.1 (dk T_X5_findRests 5 rfl) ?_
  refine lv_istore_n (lv' := [(1, .int (((1 : Int32) <<< ((σ 92 6) &&& 31)) - 1)), (0, .ref (g.2.2 (92)))]) X.1 X.2.1 (dk T_X5_findRests 6 rfl) rfl hl (Nat.le_of_ble_eq_true rfl) rfl (fun ls hl => ?_)
  refine lv_iload_n X.1 X.2.1 (dk T_X5_findRests 7 rfl) rfl (lv_at hl 0 rfl) ?_
  refine lv_istore_n (lv' := [(2, .int (((1 : Int32) <<< ((σ 92 6) &&& 31)) - 1)), (1, .int (((1 : Int32) <<< ((σ 92 6) &&& 31)) - 1)), (0, .ref (g.2.2 (92)))]) X.1 X.2.1 (dk T_X5_findRests 8 rfl) rfl hl (Nat.le_of_ble_eq_true rfl) rfl (fun ls hl => ?_)
  obtain ⟨q8, hq8, h⟩ := bs h
  refine w_X5_findRests_l11 X (((1 : Int32) <<< ((σ 92 6) &&& 31)) - 1) σ (fun v e H locs ls Y hl => ?_) FU (((1 : Int32) <<< ((σ 92 6) &&& 31)) - 1, σ) Y (lv_sub hl [2, 1, 0] rfl) hq8
  · obtain rfl := e
    obtain rfl := Option.some.inj h
    exact KR _ _ _ _ Y (dk T_X5_findRests 49 rfl)
def f_X5_findRests (σ : St) : Option (St) := f_X5_findRests_0 σ
set_option maxHeartbeats 4000000 in
set_option maxRecDepth 100000 in
theorem c_X5_findRests {l : Launch} {g : Geo} (σ : St) {w : St} (h : f_X5_findRests σ = some w) : CtV l yX5_findRests cX5_findRests 4 none (rmm 3 71) g [.ref (g.2.2 (92))] σ w := enV (by decide) rfl (Nat.le_of_ble_eq_true rfl) (fun p e s m args below meth c Q X Y ls hl KR => w_X5_findRests_0 X σ KR Y hl h)
def I_X5_plan : List (Nat × Instr × Nat) := [(0, .aload_n 0, 1), (1, .aload_n 1, 1), (2, .iload_n 3, 1), (3, .invokevirtual 44, 3), (6, .aload_n 0, 1), (7, .aload_n 1, 1), (8, .aload_n 2, 1), (9, .iload_n 3, 1), (10, .invokevirtual 48, 3), (13, .iload 4, 2), (15, .ifCond .eq 7, 3), (18, .aload_n 0, 1), (19, .invokevirtual 52, 3), (22, .iconst 0, 1), (23, .istore 5, 2), (25, .iconst (-1), 1), (26, .istore 6, 2), (28, .aload_n 0, 1), (29, .iconst 0, 1), (30, .putfield 34, 3), (33, .iconst 0, 1), (34, .istore 7, 2), (36, .iload 7, 2), (38, .aload_n 0, 1), (39, .getfield 30, 3), (42, .if_icmp .ge 62, 3), (45, .aload_n 0, 1), (46, .iload 5, 2), (48, .iload 6, 2), (50, .iload 4, 2), (52, .invokevirtual 55, 3), (55, .istore 8, 2), (57, .aload_n 0, 1), (58, .getfield 24, 3), (61, .iload 7, 2), (63, .iload 8, 2), (65, .invokestatic 59, 3), (68, .aload_n 0, 1), (69, .dup, 1), (70, .getfield 34, 3), (73, .aload_n 0, 1), (74, .iload 6, 2), (76, .iload 8, 2), (78, .invokevirtual 63, 3), (81, .iadd, 1), (82, .putfield 34, 3), (85, .iload 5, 2), (87, .iconst 1, 1), (88, .iload 8, 2), (90, .ishl, 1), (91, .ior, 1), (92, .istore 5, 2), (94, .iload 8, 2), (96, .istore 6, 2), (98, .iinc 7 1, 3), (101, .goto (-65), 3), (104, .return_, 1)]
set_option maxRecDepth 100000 in
theorem T_X5_plan : ∀ q ∈ I_X5_plan, decode cX5_plan q.1 = .ok (q.2.1, q.2.2) := by decide +kernel
def f_X5_plan_l36 (t1 : Nat) (x4 : Int32) (z : Int32 × Int32 × Int32 × St) : Option ((Int32 × Int32 × Int32 × St) ⊕ (St)) :=
  if (z.2.2.2 92 6) ≤ z.2.2.1 then some (.inr z.2.2.2) else (f_X5_choose z.1 z.2.1 x4 z.2.2.2).bind fun q5 => (f_X10_put 97 z.2.2.1 q5.1 q5.2).bind fun q6 => (f_X5_distance z.2.1 q5.1 q6).bind fun q7 => some (.inl (z.1 ||| ((1 : Int32) <<< (q5.1 &&& 31)), q5.1, z.2.2.1 + 1, up q6 92 7 ((q6 92 7) + q7)))
set_option maxHeartbeats 4000000 in
set_option maxRecDepth 100000 in
theorem w_X5_plan_l36 (X : Cx g RX5 cX5_plan 9 none p s m args meth c) (t1 : Nat) (hk1 : kd t1 = 9) (x4 : Int32) (σ : St) {r : St} (KX0 : ∀ (v : St), r = v → ∀ (H : Heap) (locs : List Loc) (ls : Array Slot), Wd g s v H locs → lv_has ls 9 [] → W p l e (rmm 5 120) s m args below meth c H locs 0 0 Q (F0 m 104 ls [])) : ∀ (n : Nat) (z : Int32 × Int32 × Int32 × St) {H : Heap} {locs : List Loc} {ls : Array Slot}, Wd g s z.2.2.2 H locs → lv_has ls 9 [(0, .ref (g.2.2 (92))), (4, .int (x4)), (5, .int (z.1)), (6, .int (z.2.1)), (7, .int (z.2.2.1))] → lp (f_X5_plan_l36 t1 x4) n z = some r → W p l e (rmm 5 120) s m args below meth c H locs 0 0 Q (F0 m 36 ls []) := by
  intro n
  induction n with
  | zero => intro z H locs ls Y hl h; cases h
  | succ n ih =>
    intro z H locs ls Y hl h
    obtain ⟨w, h, hw⟩ := lps h
    have KB : ∀ (v0_ : Int32) (v1_ : Int32) (v2_ : Int32) (v3_ : St), w = .inl (v0_, v1_, v2_, v3_) → ∀ (H : Heap) (locs : List Loc) (ls : Array Slot), Wd g s v3_ H locs → lv_has ls 9 [(0, .ref (g.2.2 (92))), (4, .int (x4)), (5, .int (v0_)), (6, .int (v1_)), (7, .int (v2_))] → W p l e (rmm 5 120) s m args below meth c H locs 0 0 Q (F0 m 36 ls []) := fun v0_ v1_ v2_ v3_ e H locs ls Y hl => ih (v0_, v1_, v2_, v3_) Y hl (lpl hw e)
    have KX0 := fun (v : St) (e : w = .inr v) => KX0 v (lpr hw e)
    unfold f_X5_plan_l36 at h
    refine lv_iload X.1 X.2.1 (dk T_X5_plan 22 rfl) (lv_at hl 4 rfl) ?_
    refine lv_aload_n X.1 X.2.1 (dk T_X5_plan 23 rfl) rfl (lv_at hl 0 rfl) ?_
    refine gg X Y fl_X5_30 rfl rfl (dk T_X5_plan 24 rfl) ?_
    refine lv_icmp_ge (tgt := 104) X.1 X.2.1 (dk T_X5_plan 25 rfl) rfl (fun c4 => ?_) (fun c4 => ?_)
    · replace h := ipos c4 h
      exact KX0 z.2.2.2 (Option.some.inj h).symm _ _ _ Y (lv_sub hl [] rfl)
    · replace h := ineg c4 h
      refine lv_aload_n X.1 X.2.1 (dk T_X5_plan 26 rfl) rfl (lv_at hl 0 rfl) ?_
      refine lv_iload X.1 X.2.1 (dk T_X5_plan 27 rfl) (lv_at hl 2 rfl) ?_
      refine lv_iload X.1 X.2.1 (dk T_X5_plan 28 rfl) (lv_at hl 3 rfl) ?_
      refine lv_iload X.1 X.2.1 (dk T_X5_plan 29 rfl) (lv_at hl 1 rfl) ?_
      obtain ⟨q5, hq5, h⟩ := bs h
      refine gvI (rest := []) X Y (c_X5_choose z.1 z.2.1 x4 z.2.2.2 hq5) cb_X5_55 rfl hl.1 rfl rfl (Nat.le_of_ble_eq_true rfl) ⟨Nat.le_of_ble_eq_true rfl, Nat.le_of_ble_eq_true rfl⟩ (dk T_X5_plan 30 rfl) (fun H locs Y => ?_)
      refine lv_istore (lv' := [(8, .int (q5.1)), (0, .ref (g.2.2 (92))), (4, .int (x4)), (5, .int (z.1)), (6, .int (z.2.1)), (7, .int (z.2.2.1))]) X.1 X.2.1 (dk T_X5_plan 31 rfl) hl (Nat.le_of_ble_eq_true rfl) rfl (fun ls hl => ?_)
      refine lv_aload_n X.1 X.2.1 (dk T_X5_plan 32 rfl) rfl (lv_at hl 1 rfl) ?_
      refine gg X Y fl_X5_24 rfl rfl (dk T_X5_plan 33 rfl) ?_
      refine lv_iload X.1 X.2.1 (dk T_X5_plan 34 rfl) (lv_at hl 5 rfl) ?_
      refine lv_iload X.1 X.2.1 (dk T_X5_plan 35 rfl) (lv_at hl 0 rfl) ?_
      obtain ⟨q6, hq6, h⟩ := bs h
      refine gsVN (rest := []) X Y (c_X10_put 97 rfl z.2.2.1 q5.1 q5.2 hq6) cb_X5_59 hl.1 rfl rfl (Nat.le_of_ble_eq_true rfl) ⟨Nat.le_of_ble_eq_true rfl, Nat.le_of_ble_eq_true rfl⟩ (dk T_X5_plan 36 rfl) (fun H locs Y => ?_)
      refine lv_aload_n X.1 X.2.1 (dk T_X5_plan 37 rfl) rfl (lv_at hl 1 rfl) ?_
      refine lv_dup X.1 X.2.1 (dk T_X5_plan 38 rfl) rfl ?_
      refine gg X Y fl_X5_34 rfl rfl (dk T_X5_plan 39 rfl) ?_
      refine lv_aload_n X.1 X.2.1 (dk T_X5_plan 40 rfl) rfl (lv_at hl 1 rfl) ?_
      refine lv_iload X.1 X.2.1 (dk T_X5_plan 41 rfl) (lv_at hl 4 rfl) ?_
      refine lv_iload X.1 X.2.1 (dk T_X5_plan 42 rfl) (lv_at hl 0 rfl) ?_
      obtain ⟨q7, hq7, h⟩ := bs h
      refine gvI (rest := [.int (q6 92 7), .ref (g.2.2 (92))]) X Y (c_X5_distance z.2.1 q5.1 q6 hq7) cb_X5_63 rfl hl.1 rfl rfl (Nat.le_of_ble_eq_true rfl) ⟨Nat.le_of_ble_eq_true rfl, Nat.le_of_ble_eq_true rfl⟩ (dk T_X5_plan 43 rfl) (fun H locs Y => ?_)
      refine lv_iadd X.1 X.2.1 (dk T_X5_plan 44 rfl) ?_
      refine gp X Y fp_X5_34 rfl (nar_int _) (dk T_X5_plan 45 rfl) (fun H locs Y => ?_)
      refine lv_iload X.1 X.2.1 (dk T_X5_plan 46 rfl) (lv_at hl 3 rfl) ?_
      refine lv_iconst (v := 1) X.1 X.2.1 (dk T_X5_plan 47 rfl) ic_1 ?_
      refine lv_iload X.1 X.2.1 (dk T_X5_plan 48 rfl) (lv_at hl 0 rfl) ?_
      refine lv_ishl X.1 X.2.1 (dk T_X5_plan 49 rfl) ?_
      refine lv_ior X.1 X.2.1 (dk T_X5_plan 50 rfl) ?_
      refine lv_istore (lv' := [(5, .int (z.1 ||| ((1 : Int32) <<< (q5.1 &&& 31)))), (8, .int (q5.1)), (0, .ref (g.2.2 (92))), (4, .int (x4)), (6, .int (z.2.1)), (7, .int (z.2.2.1))]) X.1 X.2.1 (dk T_X5_plan 51 rfl) hl (Nat.le_of_ble_eq_true rfl) rfl (fun ls hl => ?_)
      refine lv_iload X.1 X.2.1 (dk T_X5_plan 52 rfl) (lv_at hl 1 rfl) ?_
      refine lv_istore (lv' := [(6, .int (q5.1)), (5, .int (z.1 ||| ((1 : Int32) <<< (q5.1 &&& 31)))), (8, .int (q5.1)), (0, .ref (g.2.2 (92))), (4, .int (x4)), (7, .int (z.2.2.1))]) X.1 X.2.1 (dk T_X5_plan 53 rfl) hl (Nat.le_of_ble_eq_true rfl) rfl (fun ls hl => ?_)
      refine lv_iinc (v := z.2.2.1 + 1) (lv' := [(7, .int (z.2.2.1 + 1)), (6, .int (q5.1)), (5, .int (z.1 ||| ((1 : Int32) <<< (q5.1 &&& 31)))), (8, .int (q5.1)), (0, .ref (g.2.2 (92))), (4, .int (x4))]) X.1 X.2.1 (dk T_X5_plan 54 rfl) hl (k := 5) rfl (icx ic_1) (Nat.le_of_ble_eq_true rfl) rfl (fun ls hl => ?_)
      refine lv_goto (tgt := 36) X.1 X.2.1 (dk T_X5_plan 55 rfl) rfl ?_
      exact KB (z.1 ||| ((1 : Int32) <<< (q5.1 &&& 31))) q5.1 (z.2.2.1 + 1) (up q6 92 7 ((q6 92 7) + q7)) (Option.some.inj h).symm _ _ _ Y (lv_sub hl [4, 5, 2, 1, 0] rfl)
def f_X5_plan_j22 (t1 : Nat) (x4 : Int32) (σ : St) : Option (St) :=
  (lp (f_X5_plan_l36 t1 x4) FU (0, (-1), 0, up σ 92 7 0)).bind fun q8 => some q8
set_option maxHeartbeats 4000000 in
set_option maxRecDepth 100000 in
theorem w_X5_plan_j22 (X : Cx g RX5 cX5_plan 9 none p s m args meth c) (t1 : Nat) (hk1 : kd t1 = 9) (x4 : Int32) (σ : St) {w : St} (KR : ∀ (H : Heap) (locs : List Loc) (ls : Array Slot) (pc : Nat), Wd g s w H locs → decode cX5_plan pc = .ok (.return_, 1) → W p l e (rmm 5 120) s m args below meth c H locs 0 0 Q (F0 m pc ls [])) {H : Heap} {locs : List Loc} {ls : Array Slot} (Y : Wd g s σ H locs) (hl : lv_has ls 9 [(0, .ref (g.2.2 (92))), (4, .int (x4))]) (h : f_X5_plan_j22 t1 x4 σ = some w) : W p l e (rmm 5 120) s m args below meth c H locs 0 0 Q (F0 m 22 ls []) := by
  unfold f_X5_plan_j22 at h
  refine lv_iconst (v := 0) X.1 X.2.1 (dk T_X5_plan 13 rfl) ic_0 ?_
  refine lv_istore (lv' := [(5, .int (0)), (0, .ref (g.2.2 (92))), (4, .int (x4))]) X.1 X.2.1 (dk T_X5_plan 14 rfl) hl (Nat.le_of_ble_eq_true rfl) rfl (fun ls hl => ?_)
  refine lv_iconst (v := (-1)) X.1 X.2.1 (dk T_X5_plan 15 rfl) ic_m1 ?_
  refine lv_istore (lv' := [(6, .int ((-1))), (5, .int (0)), (0, .ref (g.2.2 (92))), (4, .int (x4))]) X.1 X.2.1 (dk T_X5_plan 16 rfl) hl (Nat.le_of_ble_eq_true rfl) rfl (fun ls hl => ?_)
  refine lv_aload_n X.1 X.2.1 (dk T_X5_plan 17 rfl) rfl (lv_at hl 2 rfl) ?_
  refine lv_iconst (v := 0) X.1 X.2.1 (dk T_X5_plan 18 rfl) ic_0 ?_
  refine gp X Y fp_X5_34 rfl (nar_int _) (dk T_X5_plan 19 rfl) (fun H locs Y => ?_)
  refine lv_iconst (v := 0) X.1 X.2.1 (dk T_X5_plan 20 rfl) ic_0 ?_
  refine lv_istore (lv' := [(7, .int (0)), (6, .int ((-1))), (5, .int (0)), (0, .ref (g.2.2 (92))), (4, .int (x4))]) X.1 X.2.1 (dk T_X5_plan 21 rfl) hl (Nat.le_of_ble_eq_true rfl) rfl (fun ls hl => ?_)
  obtain ⟨q8, hq8, h⟩ := bs h
  refine w_X5_plan_l36 X t1 hk1 x4 σ (fun v e H locs ls Y hl => ?_) FU (0, (-1), 0, up σ 92 7 0) Y (lv_sub hl [3, 4, 2, 1, 0] rfl) hq8
  · obtain rfl := e
    obtain rfl := Option.some.inj h
    exact KR _ _ _ _ Y (dk T_X5_plan 56 rfl)
def f_X5_plan_0 (t1 : Nat) (x3 : Int32) (x4 : Int32) (σ : St) : Option (St) :=
  (f_X5_findStops t1 x3 σ).bind fun q1 => (f_X5_findInner t1 x3 q1).bind fun q2 => if x4 = 0 then f_X5_plan_j22 t1 x4 q2 else (f_X5_findRests q2).bind fun q9 => f_X5_plan_j22 t1 x4 q9
set_option maxHeartbeats 4000000 in
set_option maxRecDepth 100000 in
theorem w_X5_plan_0 (X : Cx g RX5 cX5_plan 9 none p s m args meth c) (t1 : Nat) (hk1 : kd t1 = 9) (x3 : Int32) (x4 : Int32) (σ : St) {w : St} (KR : ∀ (H : Heap) (locs : List Loc) (ls : Array Slot) (pc : Nat), Wd g s w H locs → decode cX5_plan pc = .ok (.return_, 1) → W p l e (rmm 5 120) s m args below meth c H locs 0 0 Q (F0 m pc ls [])) {H : Heap} {locs : List Loc} {ls : Array Slot} (Y : Wd g s σ H locs) (hl : lv_has ls 9 [(0, .ref (g.2.2 (92))), (1, .ref (g.2.2 (t1))), (2, .ref (g.2.2 (89))), (3, .int (x3)), (4, .int (x4))]) (h : f_X5_plan_0 t1 x3 x4 σ = some w) : W p l e (rmm 5 120) s m args below meth c H locs 0 0 Q (F0 m 0 ls []) := by
  unfold f_X5_plan_0 at h
  refine lv_aload_n X.1 X.2.1 (dk T_X5_plan 0 rfl) rfl (lv_at hl 0 rfl) ?_
  refine lv_aload_n X.1 X.2.1 (dk T_X5_plan 1 rfl) rfl (lv_at hl 1 rfl) ?_
  refine lv_iload_n X.1 X.2.1 (dk T_X5_plan 2 rfl) rfl (lv_at hl 3 rfl) ?_
  obtain ⟨q1, hq1, h⟩ := bs h
  refine gvV (rest := []) X Y (c_X5_findStops t1 hk1 x3 σ hq1) cb_X5_44 rfl hl.1 rfl rfl (Nat.le_of_ble_eq_true rfl) ⟨Nat.le_of_ble_eq_true rfl, Nat.le_of_ble_eq_true rfl⟩ (dk T_X5_plan 3 rfl) (fun H locs Y => ?_)
  refine lv_aload_n X.1 X.2.1 (dk T_X5_plan 4 rfl) rfl (lv_at hl 0 rfl) ?_
  refine lv_aload_n X.1 X.2.1 (dk T_X5_plan 5 rfl) rfl (lv_at hl 1 rfl) ?_
  refine lv_aload_n X.1 X.2.1 (dk T_X5_plan 6 rfl) rfl (lv_at hl 2 rfl) ?_
  refine lv_iload_n X.1 X.2.1 (dk T_X5_plan 7 rfl) rfl (lv_at hl 3 rfl) ?_
  obtain ⟨q2, hq2, h⟩ := bs h
  refine gvV (rest := []) X Y (c_X5_findInner t1 hk1 x3 q1 hq2) cb_X5_48 rfl hl.1 rfl rfl (Nat.le_of_ble_eq_true rfl) ⟨Nat.le_of_ble_eq_true rfl, Nat.le_of_ble_eq_true rfl⟩ (dk T_X5_plan 8 rfl) (fun H locs Y => ?_)
  refine lv_iload X.1 X.2.1 (dk T_X5_plan 9 rfl) (lv_at hl 4 rfl) ?_
  refine lv_if_eq (tgt := 22) X.1 X.2.1 (dk T_X5_plan 10 rfl) rfl (fun c3 => ?_) (fun c3 => ?_)
  · replace h := ipos c3 h
    exact w_X5_plan_j22 X t1 hk1 x4 q2 KR Y (lv_sub hl [0, 4] rfl) h
  · replace h := ineg c3 h
    refine lv_aload_n X.1 X.2.1 (dk T_X5_plan 11 rfl) rfl (lv_at hl 0 rfl) ?_
    obtain ⟨q9, hq9, h⟩ := bs h
    refine gvV (rest := []) X Y (c_X5_findRests q2 hq9) cb_X5_52 rfl hl.1 rfl rfl (Nat.le_of_ble_eq_true rfl) ⟨Nat.le_of_ble_eq_true rfl, Nat.le_of_ble_eq_true rfl⟩ (dk T_X5_plan 12 rfl) (fun H locs Y => ?_)
    exact w_X5_plan_j22 X t1 hk1 x4 q9 KR Y (lv_sub hl [0, 4] rfl) h
def f_X5_plan (t1 : Nat) (x3 : Int32) (x4 : Int32) (σ : St) : Option (St) := f_X5_plan_0 t1 x3 x4 σ
set_option maxHeartbeats 4000000 in
set_option maxRecDepth 100000 in
theorem c_X5_plan {l : Launch} {g : Geo} (t1 : Nat) (hk1 : kd t1 = 9) (x3 : Int32) (x4 : Int32) (σ : St) {w : St} (h : f_X5_plan t1 x3 x4 σ = some w) : CtV l yX5_plan cX5_plan 9 none (rmm 5 120) g [.ref (g.2.2 (92)), .ref (g.2.2 (t1)), .ref (g.2.2 (89)), .int (x3), .int (x4)] σ w := enV (by decide) rfl (Nat.le_of_ble_eq_true rfl) (fun p e s m args below meth c Q X Y ls hl KR => w_X5_plan_0 X t1 hk1 x3 x4 σ KR Y hl h)
def I_X5_length : List (Nat × Instr × Nat) := [(0, .aload_n 0, 1), (1, .getfield 34, 3), (4, .ireturn, 1)]
set_option maxRecDepth 100000 in
theorem T_X5_length : ∀ q ∈ I_X5_length, decode cX5_length q.1 = .ok (q.2.1, q.2.2) := by decide +kernel
def f_X5_length_0 (σ : St) : Option (Int32) :=
  some (σ 92 7)
set_option maxHeartbeats 4000000 in
set_option maxRecDepth 100000 in
theorem w_X5_length_0 (X : Cx g RX5 cX5_length 1 (some .int) p s m args meth c) (σ : St) {w : Int32} (KR : ∀ (H : Heap) (locs : List Loc) (ls : Array Slot) (pc : Nat), Wd g s σ H locs → decode cX5_length pc = .ok (.ireturn, 1) → W p l e (rmm 0 0) s m args below meth c H locs 0 0 Q (F0 m pc ls [.int (w)])) {H : Heap} {locs : List Loc} {ls : Array Slot} (Y : Wd g s σ H locs) (hl : lv_has ls 1 [(0, .ref (g.2.2 (92)))]) (h : f_X5_length_0 σ = some w) : W p l e (rmm 0 0) s m args below meth c H locs 0 0 Q (F0 m 0 ls []) := by
  unfold f_X5_length_0 at h
  refine lv_aload_n X.1 X.2.1 (dk T_X5_length 0 rfl) rfl (lv_at hl 0 rfl) ?_
  refine gg X Y fl_X5_34 rfl rfl (dk T_X5_length 1 rfl) ?_
  obtain rfl := Option.some.inj h
  exact KR _ _ _ _ Y (dk T_X5_length 2 rfl)
def f_X5_length (σ : St) : Option (Int32) := f_X5_length_0 σ
set_option maxHeartbeats 4000000 in
set_option maxRecDepth 100000 in
theorem c_X5_length {l : Launch} {g : Geo} (σ : St) {w : Int32} (h : f_X5_length σ = some w) : CtI l yX5_length cX5_length 1 (some .int) (rmm 0 0) g [.ref (g.2.2 (92))] σ w σ := enI .int (by decide) rfl rfl (Nat.le_of_ble_eq_true rfl) (fun p e s m args below meth c Q X Y ls hl KR => w_X5_length_0 X σ KR Y hl h)
def I_X5_partAt : List (Nat × Instr × Nat) := [(0, .aload_n 0, 1), (1, .getfield 9, 3), (4, .aload_n 0, 1), (5, .getfield 24, 3), (8, .iload_n 1, 1), (9, .invokestatic 40, 3), (12, .invokestatic 40, 3), (15, .ireturn, 1)]
set_option maxRecDepth 100000 in
theorem T_X5_partAt : ∀ q ∈ I_X5_partAt, decode cX5_partAt q.1 = .ok (q.2.1, q.2.2) := by decide +kernel
def f_X5_partAt_0 (x1 : Int32) (σ : St) : Option (Int32) :=
  (f_X10_at 97 x1 σ).bind fun q1 => (f_X10_at 93 q1 σ).bind fun q2 => some q2
set_option maxHeartbeats 4000000 in
set_option maxRecDepth 100000 in
theorem w_X5_partAt_0 (X : Cx g RX5 cX5_partAt 2 (some .int) p s m args meth c) (x1 : Int32) (σ : St) {w : Int32} (KR : ∀ (H : Heap) (locs : List Loc) (ls : Array Slot) (pc : Nat), Wd g s σ H locs → decode cX5_partAt pc = .ok (.ireturn, 1) → W p l e (rmm 1 21) s m args below meth c H locs 0 0 Q (F0 m pc ls [.int (w)])) {H : Heap} {locs : List Loc} {ls : Array Slot} (Y : Wd g s σ H locs) (hl : lv_has ls 2 [(0, .ref (g.2.2 (92))), (1, .int (x1))]) (h : f_X5_partAt_0 x1 σ = some w) : W p l e (rmm 1 21) s m args below meth c H locs 0 0 Q (F0 m 0 ls []) := by
  unfold f_X5_partAt_0 at h
  refine lv_aload_n X.1 X.2.1 (dk T_X5_partAt 0 rfl) rfl (lv_at hl 0 rfl) ?_
  refine gg X Y fl_X5_9 rfl rfl (dk T_X5_partAt 1 rfl) ?_
  refine lv_aload_n X.1 X.2.1 (dk T_X5_partAt 2 rfl) rfl (lv_at hl 0 rfl) ?_
  refine gg X Y fl_X5_24 rfl rfl (dk T_X5_partAt 3 rfl) ?_
  refine lv_iload_n X.1 X.2.1 (dk T_X5_partAt 4 rfl) rfl (lv_at hl 1 rfl) ?_
  obtain ⟨q1, hq1, h⟩ := bs h
  refine gsIN (rest := [.ref (g.2.2 (93))]) X Y (c_X10_at 97 rfl x1 σ hq1) cb_X5_40 hl.1 rfl rfl (Nat.le_of_ble_eq_true rfl) ⟨Nat.le_of_ble_eq_true rfl, Nat.le_of_ble_eq_true rfl⟩ (dk T_X5_partAt 5 rfl) (fun H locs Y => ?_)
  obtain ⟨q2, hq2, h⟩ := bs h
  refine gsIN (rest := []) X Y (c_X10_at 93 rfl q1 σ hq2) cb_X5_40 hl.1 rfl rfl (Nat.le_of_ble_eq_true rfl) ⟨Nat.le_of_ble_eq_true rfl, Nat.le_of_ble_eq_true rfl⟩ (dk T_X5_partAt 6 rfl) (fun H locs Y => ?_)
  obtain rfl := Option.some.inj h
  exact KR _ _ _ _ Y (dk T_X5_partAt 7 rfl)
def f_X5_partAt (x1 : Int32) (σ : St) : Option (Int32) := f_X5_partAt_0 x1 σ
set_option maxHeartbeats 4000000 in
set_option maxRecDepth 100000 in
theorem c_X5_partAt {l : Launch} {g : Geo} (x1 : Int32) (σ : St) {w : Int32} (h : f_X5_partAt x1 σ = some w) : CtI l yX5_partAt cX5_partAt 2 (some .int) (rmm 1 21) g [.ref (g.2.2 (92)), .int (x1)] σ w σ := enI .int (by decide) rfl rfl (Nat.le_of_ble_eq_true rfl) (fun p e s m args below meth c Q X Y ls hl KR => w_X5_partAt_0 X x1 σ KR Y hl h)
end
