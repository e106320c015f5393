theorem cb_X10_182 : CBV RX10 182 yX8_sizeOf cX8_sizeOf 2 (some .int) 1 9 := ⟨⟨mw 16 14 rfl rfl, mw 0 16 rfl rfl, mw 16 17 rfl rfl, by decide, by decide, by decide +kernel⟩, mw 16 15 rfl rfl, mw 16 16 rfl rfl, TX8, 3, tyX8, cl_X8⟩
theorem cb_X10_226 : CBV RX10 226 yX7_find cX7_find 4 (some .boolean) 2 8 := ⟨⟨mw 25 23 rfl rfl, mw 1 3 rfl rfl, mw 25 26 rfl rfl, by decide, by decide, by decide +kernel⟩, mw 25 24 rfl rfl, mw 25 25 rfl rfl, TX7, 6, tyX7, cl_X7⟩
theorem cb_X10_233 : CBV RX10 233 yX7_carryOut cX7_carryOut 3 (some .int) 2 8 := ⟨⟨mw 26 14 rfl rfl, mw 1 3 rfl rfl, mw 26 17 rfl rfl, by decide, by decide, by decide +kernel⟩, mw 26 15 rfl rfl, mw 26 16 rfl rfl, TX7, 6, tyX7, cl_X7⟩
section
variable {p : Program} {l : Launch} {e : Env} {s : State} {m : MethodId} {args : Array Value} {below : List Frame} {meth : Method} {c : Code} {Q : State → Prop} {g : Geo}
def I_X10_nestAll : List (Nat × Instr × Nat) := [(0, .aload_n 0, 1), (1, .getfield 25, 3), (4, .aload_n 0, 1), (5, .getfield 12, 3), (8, .invokevirtual 108, 3), (11, .iconst 0, 1), (12, .istore_n 1, 1), (13, .bipush 16, 2), (15, .istore_n 2, 1), (16, .iload_n 2, 1), (17, .ifCond .le 102, 3), (20, .iconst 0, 1), (21, .istore_n 3, 1), (22, .iload_n 3, 1), (23, .aload_n 0, 1), (24, .getfield 12, 3), (27, .getfield 123, 3), (30, .invokevirtual 209, 3), (33, .if_icmp .ge 80, 3), (36, .aload_n 0, 1), (37, .getfield 12, 3), (40, .iload_n 3, 1), (41, .invokevirtual 182, 3), (44, .iload_n 2, 1), (45, .if_icmp .ne 7, 3), (48, .iconst 1, 1), (49, .goto 4, 3), (52, .iconst 0, 1), (53, .istore 4, 2), (55, .iconst 0, 1), (56, .istore 5, 2), (58, .iload 5, 2), (60, .bipush 20, 2), (62, .if_icmp .ge 45, 3), (65, .iload 4, 2), (67, .ifCond .eq 40, 3), (70, .aload_n 0, 1), (71, .getfield 49, 3), (74, .aload_n 0, 1), (75, .getfield 12, 3), (78, .iload_n 3, 1), (79, .invokevirtual 226, 3), (82, .ifCond .eq 25, 3), (85, .aload_n 0, 1), (86, .getfield 49, 3), (89, .aload_n 0, 1), (90, .getfield 12, 3), (93, .iload_n 3, 1), (94, .invokevirtual 233, 3), (97, .pop, 1), (98, .iinc 1 1, 3), (101, .iinc 5 1, 3), (104, .goto (-46), 3), (107, .iinc 3 1, 3), (110, .goto (-88), 3), (113, .iinc 2 (-1), 3), (116, .goto (-100), 3), (119, .iload_n 1, 1), (120, .ireturn, 1)]
set_option maxRecDepth 100000 in
theorem T_X10_nestAll : ∀ q ∈ I_X10_nestAll, decode cX10_nestAll q.1 = .ok (q.2.1, q.2.2) := by decide +kernel
def f_X10_nestAll_l58 (x2 : Int32) (x3 : Int32) (x4 : Int32) (z : Int32 × Int32 × St) : Option ((Int32 × Int32 × St) ⊕ (Int32 × St)) :=
  if 20 ≤ z.2.1 then some (.inr (z.1, z.2.2)) else if x4 = 0 then some (.inr (z.1, z.2.2)) else (f_X7_find 1 x3 z.2.2).bind fun q9 => if q9.1 = 0 then some (.inr (z.1, q9.2)) else (f_X7_carryOut 1 x3 q9.2).bind fun q11 => some (.inl (z.1 + 1, z.2.1 + 1, q11.2))
set_option maxHeartbeats 4000000 in
set_option maxRecDepth 100000 in
theorem w_X10_nestAll_l58 (X : Cx g RX10 cX10_nestAll 6 (some .int) p s m args meth c) (x2 : Int32) (x3 : Int32) (x4 : Int32) (σ : St) {r : Int32 × St} (KX0 : ∀ (v0_ : Int32) (v1_ : St), r = (v0_, v1_) → ∀ (H : Heap) (locs : List Loc) (ls : Array Slot), Wd g s v1_ H locs → lv_has ls 6 [(0, .ref (g.2.2 (0))), (1, .int (v0_)), (2, .int (x2)), (3, .int (x3))] → W p l e (rmm 6 155) s m args below meth c H locs 0 0 Q (F0 m 107 ls [])) : ∀ (n : Nat) (z : Int32 × Int32 × St) {H : Heap} {locs : List Loc} {ls : Array Slot}, Wd g s z.2.2 H locs → lv_has ls 6 [(0, .ref (g.2.2 (0))), (1, .int (z.1)), (2, .int (x2)), (3, .int (x3)), (4, .int (x4)), (5, .int (z.2.1))] → lp (f_X10_nestAll_l58 x2 x3 x4) n z = some r → W p l e (rmm 6 155) s m args below meth c H locs 0 0 Q (F0 m 58 ls []) := by
  intro n
  induction n with
  | zero => intro z H locs ls Y hl h; cases h
  | succ n ih =>
    intro z H locs ls Y hl h
    obtain ⟨w, h, hw⟩ := lps h
    have KB : ∀ (v0_ : Int32) (v1_ : Int32) (v2_ : St), w = .inl (v0_, v1_, v2_) → ∀ (H : Heap) (locs : List Loc) (ls : Array Slot), Wd g s v2_ H locs → lv_has ls 6 [(0, .ref (g.2.2 (0))), (1, .int (v0_)), (2, .int (x2)), (3, .int (x3)), (4, .int (x4)), (5, .int (v1_))] → W p l e (rmm 6 155) s m args below meth c H locs 0 0 Q (F0 m 58 ls []) := fun v0_ v1_ v2_ e H locs ls Y hl => ih (v0_, v1_, v2_) Y hl (lpl hw e)
    have KX0 := fun (v0_ : Int32) (v1_ : St) (e : w = .inr (v0_, v1_)) => KX0 v0_ v1_ (lpr hw e)
    unfold f_X10_nestAll_l58 at h
    refine lv_iload X.1 X.2.1 (dk T_X10_nestAll 31 rfl) (lv_at hl 5 rfl) ?_
    refine lv_bipush (v := 20) X.1 X.2.1 (dk T_X10_nestAll 32 rfl) bp_20 ?_
    refine lv_icmp_ge (tgt := 107) X.1 X.2.1 (dk T_X10_nestAll 33 rfl) rfl (fun c7 => ?_) (fun c7 => ?_)
    · replace h := ipos c7 h
      exact KX0 z.1 z.2.2 (Option.some.inj h).symm _ _ _ Y (lv_sub hl [0, 1, 2, 3] rfl)
    · replace h := ineg c7 h
      refine lv_iload X.1 X.2.1 (dk T_X10_nestAll 34 rfl) (lv_at hl 4 rfl) ?_
      refine lv_if_eq (tgt := 107) X.1 X.2.1 (dk T_X10_nestAll 35 rfl) rfl (fun c8 => ?_) (fun c8 => ?_)
      · replace h := ipos c8 h
        exact KX0 z.1 z.2.2 (Option.some.inj h).symm _ _ _ Y (lv_sub hl [0, 1, 2, 3] rfl)
      · replace h := ineg c8 h
        refine lv_aload_n X.1 X.2.1 (dk T_X10_nestAll 36 rfl) rfl (lv_at hl 0 rfl) ?_
        refine gg X Y fl_X10_49 rfl rfl (dk T_X10_nestAll 37 rfl) ?_
        refine lv_aload_n X.1 X.2.1 (dk T_X10_nestAll 38 rfl) rfl (lv_at hl 0 rfl) ?_
        refine gg X Y fl_X10_12 rfl rfl (dk T_X10_nestAll 39 rfl) ?_
        refine lv_iload_n X.1 X.2.1 (dk T_X10_nestAll 40 rfl) rfl (lv_at hl 3 rfl) ?_
        obtain ⟨q9, hq9, h⟩ := bs h
        refine gvI (rest := []) X Y (c_X7_find 1 rfl x3 z.2.2 hq9) cb_X10_226 rfl hl.1 rfl rfl (Nat.le_of_ble_eq_true rfl) ⟨Nat.le_of_ble_eq_true rfl, Nat.le_of_ble_eq_true rfl⟩ (dk T_X10_nestAll 41 rfl) (fun H locs Y => ?_)
        refine lv_if_eq (tgt := 107) X.1 X.2.1 (dk T_X10_nestAll 42 rfl) rfl (fun c10 => ?_) (fun c10 => ?_)
        · replace h := ipos c10 h
          exact KX0 z.1 q9.2 (Option.some.inj h).symm _ _ _ Y (lv_sub hl [0, 1, 2, 3] rfl)
        · replace h := ineg c10 h
          refine lv_aload_n X.1 X.2.1 (dk T_X10_nestAll 43 rfl) rfl (lv_at hl 0 rfl) ?_
          refine gg X Y fl_X10_49 rfl rfl (dk T_X10_nestAll 44 rfl) ?_
          refine lv_aload_n X.1 X.2.1 (dk T_X10_nestAll 45 rfl) rfl (lv_at hl 0 rfl) ?_
          refine gg X Y fl_X10_12 rfl rfl (dk T_X10_nestAll 46 rfl) ?_
          refine lv_iload_n X.1 X.2.1 (dk T_X10_nestAll 47 rfl) rfl (lv_at hl 3 rfl) ?_
          obtain ⟨q11, hq11, h⟩ := bs h
          refine gvI (rest := []) X Y (c_X7_carryOut 1 rfl x3 q9.2 hq11) cb_X10_233 rfl hl.1 rfl rfl (Nat.le_of_ble_eq_true rfl) ⟨Nat.le_of_ble_eq_true rfl, Nat.le_of_ble_eq_true rfl⟩ (dk T_X10_nestAll 48 rfl) (fun H locs Y => ?_)
          refine lv_pop X.1 X.2.1 (dk T_X10_nestAll 49 rfl) rfl ?_
          refine lv_iinc (v := z.1 + 1) (lv' := [(1, .int (z.1 + 1)), (0, .ref (g.2.2 (0))), (2, .int (x2)), (3, .int (x3)), (4, .int (x4)), (5, .int (z.2.1))]) X.1 X.2.1 (dk T_X10_nestAll 50 rfl) hl (k := 1) rfl (icx ic_1) (Nat.le_of_ble_eq_true rfl) rfl (fun ls hl => ?_)
          refine lv_iinc (v := z.2.1 + 1) (lv' := [(5, .int (z.2.1 + 1)), (1, .int (z.1 + 1)), (0, .ref (g.2.2 (0))), (2, .int (x2)), (3, .int (x3)), (4, .int (x4))]) X.1 X.2.1 (dk T_X10_nestAll 51 rfl) hl (k := 5) rfl (icx ic_1) (Nat.le_of_ble_eq_true rfl) rfl (fun ls hl => ?_)
          refine lv_goto (tgt := 58) X.1 X.2.1 (dk T_X10_nestAll 52 rfl) rfl ?_
          exact KB (z.1 + 1) (z.2.1 + 1) q11.2 (Option.some.inj h).symm _ _ _ Y (lv_sub hl [2, 1, 3, 4, 5, 0] rfl)
def f_X10_nestAll_j107 (x1 : Int32) (x2 : Int32) (x3 : Int32) (σ : St) : Option ((Int32 × Int32 × St) ⊕ (Int32 × St)) :=
  some (.inl (x1, x3 + 1, σ))
set_option maxHeartbeats 4000000 in
set_option maxRecDepth 100000 in
theorem w_X10_nestAll_j107 (X : Cx g RX10 cX10_nestAll 6 (some .int) p s m args meth c) (x1 : Int32) (x2 : Int32) (x3 : Int32) (σ : St) {w : (Int32 × Int32 × St) ⊕ (Int32 × St)} (KB : ∀ (v0_ : Int32) (v1_ : Int32) (v2_ : St), w = .inl (v0_, v1_, v2_) → ∀ (H : Heap) (locs : List Loc) (ls : Array Slot), Wd g s v2_ H locs → lv_has ls 6 [(0, .ref (g.2.2 (0))), (1, .int (v0_)), (2, .int (x2)), (3, .int (v1_))] → W p l e (rmm 6 155) s m args below meth c H locs 0 0 Q (F0 m 22 ls [])) (KX0 : ∀ (v0_ : Int32) (v1_ : St), w = .inr (v0_, v1_) → ∀ (H : Heap) (locs : List Loc) (ls : Array Slot), Wd g s v1_ H locs → lv_has ls 6 [(0, .ref (g.2.2 (0))), (1, .int (v0_)), (2, .int (x2))] → W p l e (rmm 6 155) s m args below meth c H locs 0 0 Q (F0 m 113 ls [])) {H : Heap} {locs : List Loc} {ls : Array Slot} (Y : Wd g s σ H locs) (hl : lv_has ls 6 [(0, .ref (g.2.2 (0))), (1, .int (x1)), (2, .int (x2)), (3, .int (x3))]) (h : f_X10_nestAll_j107 x1 x2 x3 σ = some w) : W p l e (rmm 6 155) s m args below meth c H locs 0 0 Q (F0 m 107 ls []) := by
  unfold f_X10_nestAll_j107 at h
  refine lv_iinc (v := x3 + 1) (lv' := [(3, .int (x3 + 1)), (0, .ref (g.2.2 (0))), (1, .int (x1)), (2, .int (x2))]) X.1 X.2.1 (dk T_X10_nestAll 53 rfl) hl (k := 3) rfl (icx ic_1) (Nat.le_of_ble_eq_true rfl) rfl (fun ls hl => ?_)
  refine lv_goto (tgt := 22) X.1 X.2.1 (dk T_X10_nestAll 54 rfl) rfl ?_
  exact KB x1 (x3 + 1) σ (Option.some.inj h).symm _ _ _ Y (lv_sub hl [1, 2, 3, 0] rfl)
def f_X10_nestAll_j53 (x1 : Int32) (x2 : Int32) (x3 : Int32) (s0 : Int32) (σ : St) : Option ((Int32 × Int32 × St) ⊕ (Int32 × St)) :=
  (lp (f_X10_nestAll_l58 x2 x3 s0) FU (x1, 0, σ)).bind fun q12 => f_X10_nestAll_j107 q12.1 x2 x3 q12.2
set_option maxHeartbeats 4000000 in
set_option maxRecDepth 100000 in
theorem w_X10_nestAll_j53 (X : Cx g RX10 cX10_nestAll 6 (some .int) p s m args meth c) (x1 : Int32) (x2 : Int32) (x3 : Int32) (s0 : Int32) (σ : St) {w : (Int32 × Int32 × St) ⊕ (Int32 × St)} (KB : ∀ (v0_ : Int32) (v1_ : Int32) (v2_ : St), w = .inl (v0_, v1_, v2_) → ∀ (H : Heap) (locs : List Loc) (ls : Array Slot), Wd g s v2_ H locs → lv_has ls 6 [(0, .ref (g.2.2 (0))), (1, .int (v0_)), (2, .int (x2)), (3, .int (v1_))] → W p l e (rmm 6 155) s m args below meth c H locs 0 0 Q (F0 m 22 ls [])) (KX0 : ∀ (v0_ : Int32) (v1_ : St), w = .inr (v0_, v1_) → ∀ (H : Heap) (locs : List Loc) (ls : Array Slot), Wd g s v1_ H locs → lv_has ls 6 [(0, .ref (g.2.2 (0))), (1, .int (v0_)), (2, .int (x2))] → W p l e (rmm 6 155) s m args below meth c H locs 0 0 Q (F0 m 113 ls [])) {H : Heap} {locs : List Loc} {ls : Array Slot} (Y : Wd g s σ H locs) (hl : lv_has ls 6 [(0, .ref (g.2.2 (0))), (1, .int (x1)), (2, .int (x2)), (3, .int (x3))]) (h : f_X10_nestAll_j53 x1 x2 x3 s0 σ = some w) : W p l e (rmm 6 155) s m args below meth c H locs 0 0 Q (F0 m 53 ls [.int (s0)]) := by
  unfold f_X10_nestAll_j53 at h
  refine lv_istore (lv' := [(4, .int (s0)), (0, .ref (g.2.2 (0))), (1, .int (x1)), (2, .int (x2)), (3, .int (x3))]) X.1 X.2.1 (dk T_X10_nestAll 28 rfl) hl (Nat.le_of_ble_eq_true rfl) rfl (fun ls hl => ?_)
  refine lv_iconst (v := 0) X.1 X.2.1 (dk T_X10_nestAll 29 rfl) ic_0 ?_
  refine lv_istore (lv' := [(5, .int (0)), (4, .int (s0)), (0, .ref (g.2.2 (0))), (1, .int (x1)), (2, .int (x2)), (3, .int (x3))]) X.1 X.2.1 (dk T_X10_nestAll 30 rfl) hl (Nat.le_of_ble_eq_true rfl) rfl (fun ls hl => ?_)
  obtain ⟨q12, hq12, h⟩ := bs h
  refine w_X10_nestAll_l58 X x2 x3 s0 σ (fun v0_ v1_ e H locs ls Y hl => ?_) FU (x1, 0, σ) Y (lv_sub hl [2, 3, 4, 5, 1, 0] rfl) hq12
  · obtain ⟨rfl, rfl⟩ : v0_ = q12.1 ∧ v1_ = q12.2 := ⟨by rw [e], by rw [e]⟩
    exact w_X10_nestAll_j107 X q12.1 x2 x3 q12.2 KB KX0 Y (lv_sub hl [0, 1, 2, 3] rfl) h
def f_X10_nestAll_l22 (x2 : Int32) (z : Int32 × Int32 × St) : Option ((Int32 × Int32 × St) ⊕ (Int32 × St)) :=
  (f_X9_size 4 z.2.2).bind fun q3 => if q3 ≤ z.2.1 then some (.inr (z.1, z.2.2)) else (f_X8_sizeOf 1 z.2.1 z.2.2).bind fun q5 => if q5 = x2 then f_X10_nestAll_j53 z.1 x2 z.2.1 1 z.2.2 else f_X10_nestAll_j53 z.1 x2 z.2.1 0 z.2.2
set_option maxHeartbeats 4000000 in
set_option maxRecDepth 100000 in
theorem w_X10_nestAll_l22 (X : Cx g RX10 cX10_nestAll 6 (some .int) p s m args meth c) (x2 : Int32) (σ : St) {r : Int32 × St} (KX0 : ∀ (v0_ : Int32) (v1_ : St), r = (v0_, v1_) → ∀ (H : Heap) (locs : List Loc) (ls : Array Slot), Wd g s v1_ H locs → lv_has ls 6 [(0, .ref (g.2.2 (0))), (1, .int (v0_)), (2, .int (x2))] → W p l e (rmm 6 155) s m args below meth c H locs 0 0 Q (F0 m 113 ls [])) : ∀ (n : Nat) (z : Int32 × Int32 × St) {H : Heap} {locs : List Loc} {ls : Array Slot}, Wd g s z.2.2 H locs → lv_has ls 6 [(0, .ref (g.2.2 (0))), (1, .int (z.1)), (2, .int (x2)), (3, .int (z.2.1))] → lp (f_X10_nestAll_l22 x2) n z = some r → W p l e (rmm 6 155) s m args below meth c H locs 0 0 Q (F0 m 22 ls []) := by
  intro n
  induction n with
  | zero => intro z H locs ls Y hl h; cases h
  | succ n ih =>
    intro z H locs ls Y hl h
    obtain ⟨w, h, hw⟩ := lps h
    have KB : ∀ (v0_ : Int32) (v1_ : Int32) (v2_ : St), w = .inl (v0_, v1_, v2_) → ∀ (H : Heap) (locs : List Loc) (ls : Array Slot), Wd g s v2_ H locs → lv_has ls 6 [(0, .ref (g.2.2 (0))), (1, .int (v0_)), (2, .int (x2)), (3, .int (v1_))] → W p l e (rmm 6 155) s m args below meth c H locs 0 0 Q (F0 m 22 ls []) := fun v0_ v1_ v2_ e H locs ls Y hl => ih (v0_, v1_, v2_) Y hl (lpl hw e)
    have KX0 := fun (v0_ : Int32) (v1_ : St) (e : w = .inr (v0_, v1_)) => KX0 v0_ v1_ (lpr hw e)
    unfold f_X10_nestAll_l22 at h
    refine lv_iload_n X.1 X.2.1 (dk T_X10_nestAll 13 rfl) rfl (lv_at hl 3 rfl) ?_
    refine lv_aload_n X.1 X.2.1 (dk T_X10_nestAll 14 rfl) rfl (lv_at hl 0 rfl) ?_
    refine gg X Y fl_X10_12 rfl rfl (dk T_X10_nestAll 15 rfl) ?_
    refine ggN X Y fl_X10_123 rfl rfl (dk T_X10_nestAll 16 rfl) ?_
    obtain ⟨q3, hq3, h⟩ := bs h
    refine gvI (rest := [.int (z.2.1)]) X Y (c_X9_size 4 rfl z.2.2 hq3) cb_X10_209 rfl hl.1 rfl rfl (Nat.le_of_ble_eq_true rfl) ⟨Nat.le_of_ble_eq_true rfl, Nat.le_of_ble_eq_true rfl⟩ (dk T_X10_nestAll 17 rfl) (fun H locs Y => ?_)
    refine lv_icmp_ge (tgt := 113) X.1 X.2.1 (dk T_X10_nestAll 18 rfl) rfl (fun c4 => ?_) (fun c4 => ?_)
    · replace h := ipos c4 h
      exact KX0 z.1 z.2.2 (Option.some.inj h).symm _ _ _ Y (lv_sub hl [0, 1, 2] rfl)
    · replace h := ineg c4 h
      refine lv_aload_n X.1 X.2.1 (dk T_X10_nestAll 19 rfl) rfl (lv_at hl 0 rfl) ?_
      refine gg X Y fl_X10_12 rfl rfl (dk T_X10_nestAll 20 rfl) ?_
      refine lv_iload_n X.1 X.2.1 (dk T_X10_nestAll 21 rfl) rfl (lv_at hl 3 rfl) ?_
      obtain ⟨q5, hq5, h⟩ := bs h
      refine gvI (rest := []) X Y (c_X8_sizeOf 1 rfl z.2.1 z.2.2 hq5) cb_X10_182 rfl hl.1 rfl rfl (Nat.le_of_ble_eq_true rfl) ⟨Nat.le_of_ble_eq_true rfl, Nat.le_of_ble_eq_true rfl⟩ (dk T_X10_nestAll 22 rfl) (fun H locs Y => ?_)
      refine lv_iload_n X.1 X.2.1 (dk T_X10_nestAll 23 rfl) rfl (lv_at hl 2 rfl) ?_
      refine lv_icmp_ne (tgt := 52) X.1 X.2.1 (dk T_X10_nestAll 24 rfl) rfl (fun c6 => ?_) (fun c6 => ?_)
      · replace h := ineg c6 h
        refine lv_iconst (v := 0) X.1 X.2.1 (dk T_X10_nestAll 27 rfl) ic_0 ?_
        exact w_X10_nestAll_j53 X z.1 x2 z.2.1 0 z.2.2 KB KX0 Y (lv_sub hl [0, 1, 2, 3] rfl) h
      · replace h := ipos c6 h
        refine lv_iconst (v := 1) X.1 X.2.1 (dk T_X10_nestAll 25 rfl) ic_1 ?_
        refine lv_goto (tgt := 53) X.1 X.2.1 (dk T_X10_nestAll 26 rfl) rfl ?_
        exact w_X10_nestAll_j53 X z.1 x2 z.2.1 1 z.2.2 KB KX0 Y (lv_sub hl [0, 1, 2, 3] rfl) h
def f_X10_nestAll_l16 (z : Int32 × Int32 × St) : Option ((Int32 × Int32 × St) ⊕ (Int32 × St)) :=
  if z.2.1 ≤ 0 then some (.inr (z.1, z.2.2)) else (lp (f_X10_nestAll_l22 z.2.1) FU (z.1, 0, z.2.2)).bind fun q13 => some (.inl (q13.1, z.2.1 + (-1), q13.2))
set_option maxHeartbeats 4000000 in
set_option maxRecDepth 100000 in
theorem w_X10_nestAll_l16 (X : Cx g RX10 cX10_nestAll 6 (some .int) p s m args meth c) (σ : St) {r : Int32 × St} (KX0 : ∀ (v0_ : Int32) (v1_ : St), r = (v0_, v1_) → ∀ (H : Heap) (locs : List Loc) (ls : Array Slot), Wd g s v1_ H locs → lv_has ls 6 [(1, .int (v0_))] → W p l e (rmm 6 155) s m args below meth c H locs 0 0 Q (F0 m 119 ls [])) : ∀ (n : Nat) (z : Int32 × Int32 × St) {H : Heap} {locs : List Loc} {ls : Array Slot}, Wd g s z.2.2 H locs → lv_has ls 6 [(0, .ref (g.2.2 (0))), (1, .int (z.1)), (2, .int (z.2.1))] → lp (f_X10_nestAll_l16) n z = some r → W p l e (rmm 6 155) s m args below meth c H locs 0 0 Q (F0 m 16 ls []) := by
  intro n
  induction n with
  | zero => intro z H locs ls Y hl h; cases h
  | succ n ih =>
    intro z H locs ls Y hl h
    obtain ⟨w, h, hw⟩ := lps h
    have KB : ∀ (v0_ : Int32) (v1_ : Int32) (v2_ : St), w = .inl (v0_, v1_, v2_) → ∀ (H : Heap) (locs : List Loc) (ls : Array Slot), Wd g s v2_ H locs → lv_has ls 6 [(0, .ref (g.2.2 (0))), (1, .int (v0_)), (2, .int (v1_))] → W p l e (rmm 6 155) s m args below meth c H locs 0 0 Q (F0 m 16 ls []) := fun v0_ v1_ v2_ e H locs ls Y hl => ih (v0_, v1_, v2_) Y hl (lpl hw e)
    have KX0 := fun (v0_ : Int32) (v1_ : St) (e : w = .inr (v0_, v1_)) => KX0 v0_ v1_ (lpr hw e)
    unfold f_X10_nestAll_l16 at h
    refine lv_iload_n X.1 X.2.1 (dk T_X10_nestAll 9 rfl) rfl (lv_at hl 2 rfl) ?_
    refine lv_if_le (tgt := 119) X.1 X.2.1 (dk T_X10_nestAll 10 rfl) rfl (fun c2 => ?_) (fun c2 => ?_)
    · replace h := ipos c2 h
      exact KX0 z.1 z.2.2 (Option.some.inj h).symm _ _ _ Y (lv_sub hl [1] rfl)
    · replace h := ineg c2 h
      refine lv_iconst (v := 0) X.1 X.2.1 (dk T_X10_nestAll 11 rfl) ic_0 ?_
      refine lv_istore_n (lv' := [(3, .int (0)), (0, .ref (g.2.2 (0))), (1, .int (z.1)), (2, .int (z.2.1))]) X.1 X.2.1 (dk T_X10_nestAll 12 rfl) rfl hl (Nat.le_of_ble_eq_true rfl) rfl (fun ls hl => ?_)
      obtain ⟨q13, hq13, h⟩ := bs h
      refine w_X10_nestAll_l22 X z.2.1 σ (fun v0_ v1_ e H locs ls Y hl => ?_) FU (z.1, 0, z.2.2) Y (lv_sub hl [1, 2, 3, 0] rfl) hq13
      · obtain ⟨rfl, rfl⟩ : v0_ = q13.1 ∧ v1_ = q13.2 := ⟨by rw [e], by rw [e]⟩
        refine lv_iinc (v := z.2.1 + (-1)) (lv' := [(2, .int (z.2.1 + (-1))), (0, .ref (g.2.2 (0))), (1, .int (q13.1))]) X.1 X.2.1 (dk T_X10_nestAll 55 rfl) hl (k := 2) rfl (icx ic_m1) (Nat.le_of_ble_eq_true rfl) rfl (fun ls hl => ?_)
        refine lv_goto (tgt := 16) X.1 X.2.1 (dk T_X10_nestAll 56 rfl) rfl ?_
        exact KB q13.1 (z.2.1 + (-1)) q13.2 (Option.some.inj h).symm _ _ _ Y (lv_sub hl [1, 2, 0] rfl)
def f_X10_nestAll_0 (σ : St) : Option (Int32 × St) :=
  (f_X2_push 1 σ).bind fun q1 => (lp (f_X10_nestAll_l16) FU (0, 16, q1)).bind fun q14 => some (q14.1, q14.2)
set_option maxHeartbeats 4000000 in
set_option maxRecDepth 100000 in
theorem w_X10_nestAll_0 (X : Cx g RX10 cX10_nestAll 6 (some .int) p s m args meth c) (σ : St) {w : Int32 × St} (KR : ∀ (H : Heap) (locs : List Loc) (ls : Array Slot) (pc : Nat), Wd g s w.2 H locs → decode cX10_nestAll pc = .ok (.ireturn, 1) → W p l e (rmm 6 155) s m args below meth c H locs 0 0 Q (F0 m pc ls [.int (w.1)])) {H : Heap} {locs : List Loc} {ls : Array Slot} (Y : Wd g s σ H locs) (hl : lv_has ls 6 [(0, .ref (g.2.2 (0)))]) (h : f_X10_nestAll_0 σ = some w) : W p l e (rmm 6 155) s m args below meth c H locs 0 0 Q (F0 m 0 ls []) := by
  unfold f_X10_nestAll_0 at h
  refine lv_aload_n X.1 X.2.1 (dk T_X10_nestAll 0 rfl) rfl (lv_at hl 0 rfl) ?_
  refine gg X Y fl_X10_25 rfl rfl (dk T_X10_nestAll 1 rfl) ?_
  refine lv_aload_n X.1 X.2.1 (dk T_X10_nestAll 2 rfl) rfl (lv_at hl 0 rfl) ?_
  refine gg X Y fl_X10_12 rfl rfl (dk T_X10_nestAll 3 rfl) ?_
  obtain ⟨q1, hq1, h⟩ := bs h
  refine gvV (rest := []) X Y (c_X2_push 1 rfl σ hq1) cb_X10_108 rfl hl.1 rfl rfl (Nat.le_of_ble_eq_true rfl) ⟨Nat.le_of_ble_eq_true rfl, Nat.le_of_ble_eq_true rfl⟩ (dk T_X10_nestAll 4 rfl) (fun H locs Y => ?_)
  refine lv_iconst (v := 0) X.1 X.2.1 (dk T_X10_nestAll 5 rfl) ic_0 ?_
  refine lv_istore_n (lv' := [(1, .int (0)), (0, .ref (g.2.2 (0)))]) X.1 X.2.1 (dk T_X10_nestAll 6 rfl) rfl hl (Nat.le_of_ble_eq_true rfl) rfl (fun ls hl => ?_)
  refine lv_bipush (v := 16) X.1 X.2.1 (dk T_X10_nestAll 7 rfl) bp_16 ?_
  refine lv_istore_n (lv' := [(2, .int (16)), (1, .int (0)), (0, .ref (g.2.2 (0)))]) X.1 X.2.1 (dk T_X10_nestAll 8 rfl) rfl hl (Nat.le_of_ble_eq_true rfl) rfl (fun ls hl => ?_)
  obtain ⟨q14, hq14, h⟩ := bs h
  refine w_X10_nestAll_l16 X σ (fun v0_ v1_ e H locs ls Y hl => ?_) FU (0, 16, q1) Y (lv_sub hl [2, 1, 0] rfl) hq14
  · obtain ⟨rfl, rfl⟩ : v0_ = q14.1 ∧ v1_ = q14.2 := ⟨by rw [e], by rw [e]⟩
    refine lv_iload_n X.1 X.2.1 (dk T_X10_nestAll 57 rfl) rfl (lv_at hl 0 rfl) ?_
    obtain rfl := Option.some.inj h
    exact KR _ _ _ _ Y (dk T_X10_nestAll 58 rfl)
def f_X10_nestAll (σ : St) : Option (Int32 × St) := f_X10_nestAll_0 σ
set_option maxHeartbeats 4000000 in
set_option maxRecDepth 100000 in
theorem c_X10_nestAll {l : Launch} {g : Geo} (σ : St) {w : Int32 × St} (h : f_X10_nestAll σ = some w) : CtI l yX10_nestAll cX10_nestAll 6 (some .int) (rmm 6 155) g [.ref (g.2.2 (0))] σ w.1 w.2 := enI .int (by decide) rfl rfl (Nat.le_of_ble_eq_true rfl) (fun p e s m args below meth c Q X Y ls hl KR => w_X10_nestAll_0 X σ KR Y hl h)
end
