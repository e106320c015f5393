theorem th_280_282_284 : THx RX10 "java/lang/ArithmeticException" "there are no usable cells" 280 282 284 := ⟨mw 33 12 rfl rfl, mw 33 13 rfl rfl, by decide +kernel, by decide +kernel, by decide +kernel, mwl 59 rfl, by decide +kernel, by decide +kernel⟩
section
variable {p : Program} {l : Launch} {e : Env} {s : State} {m : MethodId} {args : Array Value} {below : List Frame} {meth : Method} {c : Code} {Q : State → Prop} {g : Geo}
def I_X11_usedShare : List (Nat × Instr × Nat) := [(0, .iconst 0, 1), (1, .istore_n 1, 1), (2, .iconst 0, 1), (3, .istore_n 2, 1), (4, .iconst 0, 1), (5, .istore_n 3, 1), (6, .iload_n 3, 1), (7, .aload_n 0, 1), (8, .getfield 7, 3), (11, .iconst 0, 1), (12, .iaload, 1), (13, .if_icmp .ge 46, 3), (16, .iconst 0, 1), (17, .istore 4, 2), (19, .iload 4, 2), (21, .aload_n 0, 1), (22, .iload_n 3, 1), (23, .invokevirtual 149, 3), (26, .if_icmp .ge 27, 3), (29, .iload_n 1, 1), (30, .aload_n 0, 1), (31, .iload_n 3, 1), (32, .iload 4, 2), (34, .invokevirtual 142, 3), (37, .ifCond .eq 7, 3), (40, .iconst 1, 1), (41, .goto 4, 3), (44, .iconst 0, 1), (45, .iadd, 1), (46, .istore_n 1, 1), (47, .iinc 4 1, 3), (50, .goto (-31), 3), (53, .iinc 3 1, 3), (56, .goto (-50), 3), (59, .iconst 0, 1), (60, .istore_n 3, 1), (61, .iload_n 3, 1), (62, .aload_n 0, 1), (63, .getfield 7, 3), (66, .iconst 2, 1), (67, .iaload, 1), (68, .if_icmp .ge 34, 3), (71, .iload_n 2, 1), (72, .aload_n 0, 1), (73, .getfield 7, 3), (76, .sipush 637, 3), (79, .aload_n 0, 1), (80, .getfield 7, 3), (83, .sipush 661, 3), (86, .iload_n 3, 1), (87, .iadd, 1), (88, .iaload, 1), (89, .iadd, 1), (90, .iaload, 1), (91, .invokestatic 191, 3), (94, .iadd, 1), (95, .istore_n 2, 1), (96, .iinc 3 1, 3), (99, .goto (-38), 3), (102, .aload_n 0, 1), (103, .iload_n 1, 1), (104, .ifCond .ne 7, 3), (107, .iconst 1, 1), (108, .goto 4, 3), (111, .iconst 0, 1), (112, .putfield 71, 3), (115, .iload_n 1, 1), (116, .ifCond .ne 7, 3), (119, .fconst 0, 1), (120, .goto 8, 3), (123, .iload_n 2, 1), (124, .i2f, 1), (125, .iload_n 1, 1), (126, .i2f, 1), (127, .fdiv, 1), (128, .freturn, 1)]
set_option maxRecDepth 100000 in
theorem T_X11_usedShare : ∀ q ∈ I_X11_usedShare, decode cX11_usedShare q.1 = .ok (q.2.1, q.2.2) := by decide +kernel
def f_X11_usedShare_j45 (x2 : Int32) (x3 : Int32) (x4 : Int32) (s0 : Int32) (s1 : Int32) (σ : St) : Option ((Int32 × Int32) ⊕ (Int32)) :=
  some (.inl (s1 + s0, x4 + 1))
set_option maxHeartbeats 4000000 in
set_option maxRecDepth 100000 in
theorem w_X11_usedShare_j45 (X : Cx g RX11 cX11_usedShare 5 (some .float) p s m args meth c) (x2 : Int32) (x3 : Int32) (x4 : Int32) (s0 : Int32) (s1 : Int32) (σ : St) {w : (Int32 × Int32) ⊕ (Int32)} (KB : ∀ (v0_ : Int32) (v1_ : Int32), w = .inl (v0_, v1_) → ∀ (H : Heap) (locs : List Loc) (ls : Array Slot), Wd g s σ H locs → lv_has ls 5 [(0, .ref (g.2.2 (101))), (1, .int (v0_)), (2, .int (x2)), (3, .int (x3)), (4, .int (v1_))] → W p l e (rmm 1 22) s m args below meth c H locs 0 0 Q (F0 m 19 ls [])) (KX0 : ∀ (v : Int32), w = .inr v → ∀ (H : Heap) (locs : List Loc) (ls : Array Slot), Wd g s σ H locs → lv_has ls 5 [(0, .ref (g.2.2 (101))), (1, .int (v)), (2, .int (x2)), (3, .int (x3))] → W p l e (rmm 1 22) s m args below meth c H locs 0 0 Q (F0 m 53 ls [])) {H : Heap} {locs : List Loc} {ls : Array Slot} (Y : Wd g s σ H locs) (hl : lv_has ls 5 [(0, .ref (g.2.2 (101))), (2, .int (x2)), (3, .int (x3)), (4, .int (x4))]) (h : f_X11_usedShare_j45 x2 x3 x4 s0 s1 σ = some w) : W p l e (rmm 1 22) s m args below meth c H locs 0 0 Q (F0 m 45 ls [.int (s0), .int (s1)]) := by
  unfold f_X11_usedShare_j45 at h
  refine lv_iadd X.1 X.2.1 (dk T_X11_usedShare 28 rfl) ?_
  refine lv_istore_n (lv' := [(1, .int (s1 + s0)), (0, .ref (g.2.2 (101))), (2, .int (x2)), (3, .int (x3)), (4, .int (x4))]) X.1 X.2.1 (dk T_X11_usedShare 29 rfl) rfl hl (Nat.le_of_ble_eq_true rfl) rfl (fun ls hl => ?_)
  refine lv_iinc (v := x4 + 1) (lv' := [(4, .int (x4 + 1)), (1, .int (s1 + s0)), (0, .ref (g.2.2 (101))), (2, .int (x2)), (3, .int (x3))]) X.1 X.2.1 (dk T_X11_usedShare 30 rfl) hl (k := 4) rfl (icx ic_1) (Nat.le_of_ble_eq_true rfl) rfl (fun ls hl => ?_)
  refine lv_goto (tgt := 19) X.1 X.2.1 (dk T_X11_usedShare 31 rfl) rfl ?_
  exact KB (s1 + s0) (x4 + 1) (Option.some.inj h).symm _ _ _ Y (lv_sub hl [2, 1, 3, 4, 0] rfl)
def f_X11_usedShare_l19 (x2 : Int32) (x3 : Int32) (σ : St) (z : Int32 × Int32) : Option ((Int32 × Int32) ⊕ (Int32)) :=
  (f_X11_cells x3 σ).bind fun q3 => if q3 ≤ z.2 then some (.inr z.1) else (f_X11_isUsable x3 z.2 σ).bind fun q5 => if q5 = 0 then f_X11_usedShare_j45 x2 x3 z.2 0 z.1 σ else f_X11_usedShare_j45 x2 x3 z.2 1 z.1 σ
set_option maxHeartbeats 4000000 in
set_option maxRecDepth 100000 in
theorem w_X11_usedShare_l19 (X : Cx g RX11 cX11_usedShare 5 (some .float) p s m args meth c) (x2 : Int32) (x3 : Int32) (σ : St) {r : Int32} (KX0 : ∀ (v : Int32), r = v → ∀ (H : Heap) (locs : List Loc) (ls : Array Slot), Wd g s σ H locs → lv_has ls 5 [(0, .ref (g.2.2 (101))), (1, .int (v)), (2, .int (x2)), (3, .int (x3))] → W p l e (rmm 1 22) s m args below meth c H locs 0 0 Q (F0 m 53 ls [])) : ∀ (n : Nat) (z : Int32 × Int32) {H : Heap} {locs : List Loc} {ls : Array Slot}, Wd g s σ H locs → lv_has ls 5 [(0, .ref (g.2.2 (101))), (1, .int (z.1)), (2, .int (x2)), (3, .int (x3)), (4, .int (z.2))] → lp (f_X11_usedShare_l19 x2 x3 σ) n z = some r → W p l e (rmm 1 22) s m args below meth c H locs 0 0 Q (F0 m 19 ls []) := by
  intro n
  induction n with
  | zero => intro z H locs ls Y hl h; cases h
  | succ n ih =>
    intro z H locs ls Y hl h
    obtain ⟨w, h, hw⟩ := lps h
    have KB : ∀ (v0_ : Int32) (v1_ : Int32), w = .inl (v0_, v1_) → ∀ (H : Heap) (locs : List Loc) (ls : Array Slot), Wd g s σ H locs → lv_has ls 5 [(0, .ref (g.2.2 (101))), (1, .int (v0_)), (2, .int (x2)), (3, .int (x3)), (4, .int (v1_))] → W p l e (rmm 1 22) s m args below meth c H locs 0 0 Q (F0 m 19 ls []) := fun v0_ v1_ e H locs ls Y hl => ih (v0_, v1_) Y hl (lpl hw e)
    have KX0 := fun (v : Int32) (e : w = .inr v) => KX0 v (lpr hw e)
    unfold f_X11_usedShare_l19 at h
    refine lv_iload X.1 X.2.1 (dk T_X11_usedShare 14 rfl) (lv_at hl 4 rfl) ?_
    refine lv_aload_n X.1 X.2.1 (dk T_X11_usedShare 15 rfl) rfl (lv_at hl 0 rfl) ?_
    refine lv_iload_n X.1 X.2.1 (dk T_X11_usedShare 16 rfl) rfl (lv_at hl 3 rfl) ?_
    obtain ⟨q3, hq3, h⟩ := bs h
    refine gvI (rest := [.int (z.2)]) X Y (c_X11_cells x3 σ hq3) cb_X11_149 rfl hl.1 rfl rfl (Nat.le_of_ble_eq_true rfl) ⟨Nat.le_of_ble_eq_true rfl, Nat.le_of_ble_eq_true rfl⟩ (dk T_X11_usedShare 17 rfl) (fun H locs Y => ?_)
    refine lv_icmp_ge (tgt := 53) X.1 X.2.1 (dk T_X11_usedShare 18 rfl) rfl (fun c4 => ?_) (fun c4 => ?_)
    · replace h := ipos c4 h
      exact KX0 z.1 (Option.some.inj h).symm _ _ _ Y (lv_sub hl [0, 1, 2, 3] rfl)
    · replace h := ineg c4 h
      refine lv_iload_n X.1 X.2.1 (dk T_X11_usedShare 19 rfl) rfl (lv_at hl 1 rfl) ?_
      refine lv_aload_n X.1 X.2.1 (dk T_X11_usedShare 20 rfl) rfl (lv_at hl 0 rfl) ?_
      refine lv_iload_n X.1 X.2.1 (dk T_X11_usedShare 21 rfl) rfl (lv_at hl 3 rfl) ?_
      refine lv_iload X.1 X.2.1 (dk T_X11_usedShare 22 rfl) (lv_at hl 4 rfl) ?_
      obtain ⟨q5, hq5, h⟩ := bs h
      refine gvI (rest := [.int (z.1)]) X Y (c_X11_isUsable x3 z.2 σ hq5) cb_X11_142 rfl hl.1 rfl rfl (Nat.le_of_ble_eq_true rfl) ⟨Nat.le_of_ble_eq_true rfl, Nat.le_of_ble_eq_true rfl⟩ (dk T_X11_usedShare 23 rfl) (fun H locs Y => ?_)
      refine lv_if_eq (tgt := 44) X.1 X.2.1 (dk T_X11_usedShare 24 rfl) rfl (fun c6 => ?_) (fun c6 => ?_)
      · replace h := ipos c6 h
        refine lv_iconst (v := 0) X.1 X.2.1 (dk T_X11_usedShare 27 rfl) ic_0 ?_
        exact w_X11_usedShare_j45 X x2 x3 z.2 0 z.1 σ KB KX0 Y (lv_sub hl [0, 2, 3, 4] rfl) h
      · replace h := ineg c6 h
        refine lv_iconst (v := 1) X.1 X.2.1 (dk T_X11_usedShare 25 rfl) ic_1 ?_
        refine lv_goto (tgt := 45) X.1 X.2.1 (dk T_X11_usedShare 26 rfl) rfl ?_
        exact w_X11_usedShare_j45 X x2 x3 z.2 1 z.1 σ KB KX0 Y (lv_sub hl [0, 2, 3, 4] rfl) h
def f_X11_usedShare_l6 (x2 : Int32) (σ : St) (z : Int32 × Int32) : Option ((Int32 × Int32) ⊕ (Int32)) :=
  chk (inb 0 761) (if (σ 102 (0 : Int32).toNatClampNeg) ≤ z.2 then some (.inr z.1) else (lp (f_X11_usedShare_l19 x2 z.2 σ) FU (z.1, 0)).bind fun q7 => some (.inl (q7, z.2 + 1)))
set_option maxHeartbeats 4000000 in
set_option maxRecDepth 100000 in
theorem w_X11_usedShare_l6 (X : Cx g RX11 cX11_usedShare 5 (some .float) p s m args meth c) (x2 : Int32) (σ : St) {r : Int32} (KX0 : ∀ (v : Int32), r = v → ∀ (H : Heap) (locs : List Loc) (ls : Array Slot), Wd g s σ H locs → lv_has ls 5 [(0, .ref (g.2.2 (101))), (1, .int (v)), (2, .int (x2))] → W p l e (rmm 1 22) s m args below meth c H locs 0 0 Q (F0 m 59 ls [])) : ∀ (n : Nat) (z : Int32 × Int32) {H : Heap} {locs : List Loc} {ls : Array Slot}, Wd g s σ H locs → lv_has ls 5 [(0, .ref (g.2.2 (101))), (1, .int (z.1)), (2, .int (x2)), (3, .int (z.2))] → lp (f_X11_usedShare_l6 x2 σ) n z = some r → W p l e (rmm 1 22) s m args below meth c H locs 0 0 Q (F0 m 6 ls []) := by
  intro n
  induction n with
  | zero => intro z H locs ls Y hl h; cases h
  | succ n ih =>
    intro z H locs ls Y hl h
    obtain ⟨w, h, hw⟩ := lps h
    have KB : ∀ (v0_ : Int32) (v1_ : Int32), w = .inl (v0_, v1_) → ∀ (H : Heap) (locs : List Loc) (ls : Array Slot), Wd g s σ H locs → lv_has ls 5 [(0, .ref (g.2.2 (101))), (1, .int (v0_)), (2, .int (x2)), (3, .int (v1_))] → W p l e (rmm 1 22) s m args below meth c H locs 0 0 Q (F0 m 6 ls []) := fun v0_ v1_ e H locs ls Y hl => ih (v0_, v1_) Y hl (lpl hw e)
    have KX0 := fun (v : Int32) (e : w = .inr v) => KX0 v (lpr hw e)
    unfold f_X11_usedShare_l6 at h
    refine lv_iload_n X.1 X.2.1 (dk T_X11_usedShare 6 rfl) rfl (lv_at hl 3 rfl) ?_
    refine lv_aload_n X.1 X.2.1 (dk T_X11_usedShare 7 rfl) rfl (lv_at hl 0 rfl) ?_
    refine gg X Y fl_X11_7 rfl rfl (dk T_X11_usedShare 8 rfl) ?_
    refine lv_iconst (v := 0) X.1 X.2.1 (dk T_X11_usedShare 9 rfl) ic_0 ?_
    obtain ⟨g1, h⟩ := gd h
    refine gil X Y rfl (inp g1) (dk T_X11_usedShare 10 rfl) ?_
    refine lv_icmp_ge (tgt := 59) X.1 X.2.1 (dk T_X11_usedShare 11 rfl) rfl (fun c2 => ?_) (fun c2 => ?_)
    · replace h := ipos c2 h
      exact KX0 z.1 (Option.some.inj h).symm _ _ _ Y (lv_sub hl [0, 1, 2] rfl)
    · replace h := ineg c2 h
      refine lv_iconst (v := 0) X.1 X.2.1 (dk T_X11_usedShare 12 rfl) ic_0 ?_
      refine lv_istore (lv' := [(4, .int (0)), (0, .ref (g.2.2 (101))), (1, .int (z.1)), (2, .int (x2)), (3, .int (z.2))]) X.1 X.2.1 (dk T_X11_usedShare 13 rfl) hl (Nat.le_of_ble_eq_true rfl) rfl (fun ls hl => ?_)
      obtain ⟨q7, hq7, h⟩ := bs h
      refine w_X11_usedShare_l19 X x2 z.2 σ (fun v e H locs ls Y hl => ?_) FU (z.1, 0) Y (lv_sub hl [1, 2, 3, 4, 0] rfl) hq7
      · obtain rfl := e
        refine lv_iinc (v := z.2 + 1) (lv' := [(3, .int (z.2 + 1)), (0, .ref (g.2.2 (101))), (1, .int (q7)), (2, .int (x2))]) X.1 X.2.1 (dk T_X11_usedShare 32 rfl) hl (k := 3) rfl (icx ic_1) (Nat.le_of_ble_eq_true rfl) rfl (fun ls hl => ?_)
        refine lv_goto (tgt := 6) X.1 X.2.1 (dk T_X11_usedShare 33 rfl) rfl ?_
        exact KB q7 (z.2 + 1) (Option.some.inj h).symm _ _ _ Y (lv_sub hl [1, 2, 3, 0] rfl)
def f_X11_usedShare_l61 (x1 : Int32) (σ : St) (z : Int32 × Int32) : Option ((Int32 × Int32) ⊕ (Int32)) :=
  chk (inb 2 761) (if (σ 102 (2 : Int32).toNatClampNeg) ≤ z.2 then some (.inr z.1) else chk (inb (661 + z.2) 761) (chk (inb (637 + (σ 102 (661 + z.2).toNatClampNeg)) 761) ((f_X11_bits (σ 102 (637 + (σ 102 (661 + z.2).toNatClampNeg)).toNatClampNeg)).bind fun q13 => some (.inl (z.1 + q13, z.2 + 1)))))
set_option maxHeartbeats 4000000 in
set_option maxRecDepth 100000 in
theorem w_X11_usedShare_l61 (X : Cx g RX11 cX11_usedShare 5 (some .float) p s m args meth c) (x1 : Int32) (σ : St) {r : Int32} (KX0 : ∀ (v : Int32), r = v → ∀ (H : Heap) (locs : List Loc) (ls : Array Slot), Wd g s σ H locs → lv_has ls 5 [(0, .ref (g.2.2 (101))), (1, .int (x1)), (2, .int (v))] → W p l e (rmm 1 22) s m args below meth c H locs 0 0 Q (F0 m 102 ls [])) : ∀ (n : Nat) (z : Int32 × Int32) {H : Heap} {locs : List Loc} {ls : Array Slot}, Wd g s σ H locs → lv_has ls 5 [(0, .ref (g.2.2 (101))), (1, .int (x1)), (2, .int (z.1)), (3, .int (z.2))] → lp (f_X11_usedShare_l61 x1 σ) n z = some r → W p l e (rmm 1 22) s m args below meth c H locs 0 0 Q (F0 m 61 ls []) := by
  intro n
  induction n with
  | zero => intro z H locs ls Y hl h; cases h
  | succ n ih =>
    intro z H locs ls Y hl h
    obtain ⟨w, h, hw⟩ := lps h
    have KB : ∀ (v0_ : Int32) (v1_ : Int32), w = .inl (v0_, v1_) → ∀ (H : Heap) (locs : List Loc) (ls : Array Slot), Wd g s σ H locs → lv_has ls 5 [(0, .ref (g.2.2 (101))), (1, .int (x1)), (2, .int (v0_)), (3, .int (v1_))] → W p l e (rmm 1 22) s m args below meth c H locs 0 0 Q (F0 m 61 ls []) := fun v0_ v1_ e H locs ls Y hl => ih (v0_, v1_) Y hl (lpl hw e)
    have KX0 := fun (v : Int32) (e : w = .inr v) => KX0 v (lpr hw e)
    unfold f_X11_usedShare_l61 at h
    refine lv_iload_n X.1 X.2.1 (dk T_X11_usedShare 36 rfl) rfl (lv_at hl 3 rfl) ?_
    refine lv_aload_n X.1 X.2.1 (dk T_X11_usedShare 37 rfl) rfl (lv_at hl 0 rfl) ?_
    refine gg X Y fl_X11_7 rfl rfl (dk T_X11_usedShare 38 rfl) ?_
    refine lv_iconst (v := 2) X.1 X.2.1 (dk T_X11_usedShare 39 rfl) ic_2 ?_
    obtain ⟨g9, h⟩ := gd h
    refine gil X Y rfl (inp g9) (dk T_X11_usedShare 40 rfl) ?_
    refine lv_icmp_ge (tgt := 102) X.1 X.2.1 (dk T_X11_usedShare 41 rfl) rfl (fun c10 => ?_) (fun c10 => ?_)
    · replace h := ipos c10 h
      exact KX0 z.1 (Option.some.inj h).symm _ _ _ Y (lv_sub hl [0, 1, 2] rfl)
    · replace h := ineg c10 h
      refine lv_iload_n X.1 X.2.1 (dk T_X11_usedShare 42 rfl) rfl (lv_at hl 2 rfl) ?_
      refine lv_aload_n X.1 X.2.1 (dk T_X11_usedShare 43 rfl) rfl (lv_at hl 0 rfl) ?_
      refine gg X Y fl_X11_7 rfl rfl (dk T_X11_usedShare 44 rfl) ?_
      refine lv_sipush (v := 637) X.1 X.2.1 (dk T_X11_usedShare 45 rfl) sp_637 ?_
      refine lv_aload_n X.1 X.2.1 (dk T_X11_usedShare 46 rfl) rfl (lv_at hl 0 rfl) ?_
      refine gg X Y fl_X11_7 rfl rfl (dk T_X11_usedShare 47 rfl) ?_
      refine lv_sipush (v := 661) X.1 X.2.1 (dk T_X11_usedShare 48 rfl) sp_661 ?_
      refine lv_iload_n X.1 X.2.1 (dk T_X11_usedShare 49 rfl) rfl (lv_at hl 3 rfl) ?_
      refine lv_iadd X.1 X.2.1 (dk T_X11_usedShare 50 rfl) ?_
      obtain ⟨g11, h⟩ := gd h
      refine gil X Y rfl (inp g11) (dk T_X11_usedShare 51 rfl) ?_
      refine lv_iadd X.1 X.2.1 (dk T_X11_usedShare 52 rfl) ?_
      obtain ⟨g12, h⟩ := gd h
      refine gil X Y rfl (inp g12) (dk T_X11_usedShare 53 rfl) ?_
      obtain ⟨q13, hq13, h⟩ := bs h
      refine gsI (rest := [.int (z.1)]) X Y (c_X11_bits (σ 102 (637 + (σ 102 (661 + z.2).toNatClampNeg)).toNatClampNeg) σ hq13) cb_X11_191 hl.1 rfl rfl (Nat.le_of_ble_eq_true rfl) ⟨Nat.le_of_ble_eq_true rfl, Nat.le_of_ble_eq_true rfl⟩ (dk T_X11_usedShare 54 rfl) (fun H locs Y => ?_)
      refine lv_iadd X.1 X.2.1 (dk T_X11_usedShare 55 rfl) ?_
      refine lv_istore_n (lv' := [(2, .int (z.1 + q13)), (0, .ref (g.2.2 (101))), (1, .int (x1)), (3, .int (z.2))]) X.1 X.2.1 (dk T_X11_usedShare 56 rfl) rfl hl (Nat.le_of_ble_eq_true rfl) rfl (fun ls hl => ?_)
      refine lv_iinc (v := z.2 + 1) (lv' := [(3, .int (z.2 + 1)), (2, .int (z.1 + q13)), (0, .ref (g.2.2 (101))), (1, .int (x1))]) X.1 X.2.1 (dk T_X11_usedShare 57 rfl) hl (k := 3) rfl (icx ic_1) (Nat.le_of_ble_eq_true rfl) rfl (fun ls hl => ?_)
      refine lv_goto (tgt := 61) X.1 X.2.1 (dk T_X11_usedShare 58 rfl) rfl ?_
      exact KB (z.1 + q13) (z.2 + 1) (Option.some.inj h).symm _ _ _ Y (lv_sub hl [2, 3, 1, 0] rfl)
def f_X11_usedShare_j112 (x1 : Int32) (x2 : Int32) (s0 : Int32) (σ : St) : Option (Int32 × St) :=
  if x1 = 0 then some (FP.fconst0.toInt32, up σ 101 0 s0) else chk (nf32 (FP.fdiv (FP.i2f x2) (FP.i2f x1))) (some ((FP.fdiv (FP.i2f x2) (FP.i2f x1)).toInt32, up σ 101 0 s0))
set_option maxHeartbeats 4000000 in
set_option maxRecDepth 100000 in
theorem w_X11_usedShare_j112 (X : Cx g RX11 cX11_usedShare 5 (some .float) p s m args meth c) (x1 : Int32) (x2 : Int32) (s0 : Int32) (σ : St) {w : Int32 × St} (KR : ∀ (H : Heap) (locs : List Loc) (ls : Array Slot) (pc : Nat), Wd g s w.2 H locs → decode cX11_usedShare pc = .ok (.freturn, 1) → W p l e (rmm 1 22) s m args below meth c H locs 0 0 Q (F0 m pc ls [.float (w.1).toUInt32])) {H : Heap} {locs : List Loc} {ls : Array Slot} (Y : Wd g s σ H locs) (hl : lv_has ls 5 [(1, .int (x1)), (2, .int (x2))]) (h : f_X11_usedShare_j112 x1 x2 s0 σ = some w) : W p l e (rmm 1 22) s m args below meth c H locs 0 0 Q (F0 m 112 ls [.int (s0), .ref (g.2.2 (101))]) := by
  unfold f_X11_usedShare_j112 at h
  refine gp X Y fp_X11_71 rfl (nar_int _) (dk T_X11_usedShare 65 rfl) (fun H locs Y => ?_)
  refine lv_iload_n X.1 X.2.1 (dk T_X11_usedShare 66 rfl) rfl (lv_at hl 0 rfl) ?_
  refine lv_if_ne (tgt := 123) X.1 X.2.1 (dk T_X11_usedShare 67 rfl) rfl (fun c16 => ?_) (fun c16 => ?_)
  · replace h := ineg c16 h
    refine lv_iload_n X.1 X.2.1 (dk T_X11_usedShare 70 rfl) rfl (lv_at hl 1 rfl) ?_
    refine lv_i2f X.1 X.2.1 (dk T_X11_usedShare 71 rfl) ?_
    refine lv_iload_n X.1 X.2.1 (dk T_X11_usedShare 72 rfl) rfl (lv_at hl 0 rfl) ?_
    refine lv_i2f X.1 X.2.1 (dk T_X11_usedShare 73 rfl) ?_
    obtain ⟨g17, h⟩ := gd h
    refine lv_fdiv X.1 X.2.1 (dk T_X11_usedShare 74 rfl) (nf32p g17) ?_
    obtain rfl := Option.some.inj h
    exact KR _ _ _ _ Y (dk T_X11_usedShare 75 rfl)
  · replace h := ipos c16 h
    refine lv_fconst0 X.1 X.2.1 (dk T_X11_usedShare 68 rfl) ?_
    refine lv_goto (tgt := 128) X.1 X.2.1 (dk T_X11_usedShare 69 rfl) rfl ?_
    obtain rfl := Option.some.inj h
    exact KR _ _ _ _ Y (dk T_X11_usedShare 75 rfl)
def f_X11_usedShare_0 (σ : St) : Option (Int32 × St) :=
  (lp (f_X11_usedShare_l6 0 σ) FU (0, 0)).bind fun q8 => (lp (f_X11_usedShare_l61 q8 σ) FU (0, 0)).bind fun q14 => if q8 = 0 then f_X11_usedShare_j112 q8 q14 1 σ else f_X11_usedShare_j112 q8 q14 0 σ
set_option maxHeartbeats 4000000 in
set_option maxRecDepth 100000 in
theorem w_X11_usedShare_0 (X : Cx g RX11 cX11_usedShare 5 (some .float) p s m args meth c) (σ : St) {w : Int32 × St} (KR : ∀ (H : Heap) (locs : List Loc) (ls : Array Slot) (pc : Nat), Wd g s w.2 H locs → decode cX11_usedShare pc = .ok (.freturn, 1) → W p l e (rmm 1 22) s m args below meth c H locs 0 0 Q (F0 m pc ls [.float (w.1).toUInt32])) {H : Heap} {locs : List Loc} {ls : Array Slot} (Y : Wd g s σ H locs) (hl : lv_has ls 5 [(0, .ref (g.2.2 (101)))]) (h : f_X11_usedShare_0 σ = some w) : W p l e (rmm 1 22) s m args below meth c H locs 0 0 Q (F0 m 0 ls []) := by
  unfold f_X11_usedShare_0 at h
  refine lv_iconst (v := 0) X.1 X.2.1 (dk T_X11_usedShare 0 rfl) ic_0 ?_
  refine lv_istore_n (lv' := [(1, .int (0)), (0, .ref (g.2.2 (101)))]) X.1 X.2.1 (dk T_X11_usedShare 1 rfl) rfl hl (Nat.le_of_ble_eq_true rfl) rfl (fun ls hl => ?_)
  refine lv_iconst (v := 0) X.1 X.2.1 (dk T_X11_usedShare 2 rfl) ic_0 ?_
  refine lv_istore_n (lv' := [(2, .int (0)), (1, .int (0)), (0, .ref (g.2.2 (101)))]) X.1 X.2.1 (dk T_X11_usedShare 3 rfl) rfl hl (Nat.le_of_ble_eq_true rfl) rfl (fun ls hl => ?_)
  refine lv_iconst (v := 0) X.1 X.2.1 (dk T_X11_usedShare 4 rfl) ic_0 ?_
  refine lv_istore_n (lv' := [(3, .int (0)), (2, .int (0)), (1, .int (0)), (0, .ref (g.2.2 (101)))]) X.1 X.2.1 (dk T_X11_usedShare 5 rfl) rfl hl (Nat.le_of_ble_eq_true rfl) rfl (fun ls hl => ?_)
  obtain ⟨q8, hq8, h⟩ := bs h
  refine w_X11_usedShare_l6 X 0 σ (fun v e H locs ls Y hl => ?_) FU (0, 0) Y (lv_sub hl [3, 2, 1, 0] rfl) hq8
  · obtain rfl := e
    refine lv_iconst (v := 0) X.1 X.2.1 (dk T_X11_usedShare 34 rfl) ic_0 ?_
    refine lv_istore_n (lv' := [(3, .int (0)), (0, .ref (g.2.2 (101))), (1, .int (q8)), (2, .int (0))]) X.1 X.2.1 (dk T_X11_usedShare 35 rfl) rfl hl (Nat.le_of_ble_eq_true rfl) rfl (fun ls hl => ?_)
    obtain ⟨q14, hq14, h⟩ := bs h
    refine w_X11_usedShare_l61 X q8 σ (fun v e H locs ls Y hl => ?_) FU (0, 0) Y (lv_sub hl [1, 2, 3, 0] rfl) hq14
    · obtain rfl := e
      refine lv_aload_n X.1 X.2.1 (dk T_X11_usedShare 59 rfl) rfl (lv_at hl 0 rfl) ?_
      refine lv_iload_n X.1 X.2.1 (dk T_X11_usedShare 60 rfl) rfl (lv_at hl 1 rfl) ?_
      refine lv_if_ne (tgt := 111) X.1 X.2.1 (dk T_X11_usedShare 61 rfl) rfl (fun c15 => ?_) (fun c15 => ?_)
      · replace h := ineg c15 h
        refine lv_iconst (v := 0) X.1 X.2.1 (dk T_X11_usedShare 64 rfl) ic_0 ?_
        exact w_X11_usedShare_j112 X q8 q14 0 σ KR Y (lv_sub hl [1, 2] rfl) h
      · replace h := ipos c15 h
        refine lv_iconst (v := 1) X.1 X.2.1 (dk T_X11_usedShare 62 rfl) ic_1 ?_
        refine lv_goto (tgt := 112) X.1 X.2.1 (dk T_X11_usedShare 63 rfl) rfl ?_
        exact w_X11_usedShare_j112 X q8 q14 1 σ KR Y (lv_sub hl [1, 2] rfl) h
def f_X11_usedShare (σ : St) : Option (Int32 × St) := f_X11_usedShare_0 σ
set_option maxHeartbeats 4000000 in
set_option maxRecDepth 100000 in
theorem c_X11_usedShare {l : Launch} {g : Geo} (σ : St) {w : Int32 × St} (h : f_X11_usedShare σ = some w) : CtF l yX11_usedShare cX11_usedShare 5 (some .float) (rmm 1 22) g [.ref (g.2.2 (101))] σ w.1 w.2 := enF (by decide) rfl (Nat.le_of_ble_eq_true rfl) (fun p e s m args below meth c Q X Y ls hl KR => w_X11_usedShare_0 X σ KR Y hl h)
def I_X10_usedShare : List (Nat × Instr × Nat) := [(0, .iconst 0, 1), (1, .istore_n 1, 1), (2, .iconst 0, 1), (3, .istore_n 2, 1), (4, .iconst 0, 1), (5, .istore_n 3, 1), (6, .iload_n 3, 1), (7, .aload_n 0, 1), (8, .getfield 12, 3), (11, .getfield 93, 3), (14, .invokevirtual 209, 3), (17, .if_icmp .ge 42, 3), (20, .iload_n 1, 1), (21, .aload_n 0, 1), (22, .getfield 12, 3), (25, .iload_n 3, 1), (26, .invokevirtual 159, 3), (29, .iadd, 1), (30, .istore_n 1, 1), (31, .iload_n 2, 1), (32, .aload_n 0, 1), (33, .getfield 12, 3), (36, .iload_n 3, 1), (37, .invokevirtual 277, 3), (40, .aload_n 0, 1), (41, .getfield 12, 3), (44, .iload_n 3, 1), (45, .bipush (-2), 2), (47, .invokevirtual 149, 3), (50, .isub, 1), (51, .iadd, 1), (52, .istore_n 2, 1), (53, .iinc 3 1, 3), (56, .goto (-50), 3), (59, .iload_n 2, 1), (60, .iconst 1, 1), (61, .if_icmp .ge 14, 3), (64, .new 280, 3), (67, .dup, 1), (68, .ldc_w 282, 3), (71, .invokespecial 284, 3), (74, .athrow, 1), (75, .iload_n 1, 1), (76, .i2f, 1), (77, .iload_n 2, 1), (78, .i2f, 1), (79, .fdiv, 1), (80, .freturn, 1)]
set_option maxRecDepth 100000 in
theorem T_X10_usedShare : ∀ q ∈ I_X10_usedShare, decode cX10_usedShare q.1 = .ok (q.2.1, q.2.2) := by decide +kernel
def f_X10_usedShare_l6 (σ : St) (z : Int32 × Int32 × Int32) : Option ((Int32 × Int32 × Int32) ⊕ (Int32 × Int32)) :=
  (f_X9_size 2 σ).bind fun q1 => if q1 ≤ z.2.2 then some (.inr (z.1, z.2.1)) else (f_X8_coveredCells 1 z.2.2 σ).bind fun q3 => (f_X8_cellsOf 1 z.2.2 σ).bind fun q4 => (f_X8_cellsWith 1 z.2.2 (-2) σ).bind fun q5 => some (.inl (z.1 + q3, z.2.1 + (q4 - q5), z.2.2 + 1))
set_option maxHeartbeats 4000000 in
set_option maxRecDepth 100000 in
theorem w_X10_usedShare_l6 (X : Cx g RX10 cX10_usedShare 4 (some .float) p s m args meth c) (TX : TXs g (GA g s.heap.size) s s.heap) (hst : l.stackTraces = false) (σ : St) {r : Int32 × Int32} (KX0 : ∀ (v0_ : Int32) (v1_ : Int32), r = (v0_, v1_) → ∀ (H : Heap) (locs : List Loc) (ls : Array Slot), Wd g s σ H locs → lv_has ls 4 [(1, .int (v0_)), (2, .int (v1_))] → W p l e (rmT 6 110 1 6) s m args below meth c H locs 0 0 Q (F0 m 59 ls [])) : ∀ (n : Nat) (z : Int32 × Int32 × Int32) {H : Heap} {locs : List Loc} {ls : Array Slot}, Wd g s σ H locs → lv_has ls 4 [(0, .ref (g.2.2 (0))), (1, .int (z.1)), (2, .int (z.2.1)), (3, .int (z.2.2))] → lp (f_X10_usedShare_l6 σ) n z = some r → W p l e (rmT 6 110 1 6) s m args below meth c H locs 0 0 Q (F0 m 6 ls []) := by
  intro n
  induction n with
  | zero => intro z H locs ls Y hl h; cases h
  | succ n ih =>
    intro z H locs ls Y hl h
    obtain ⟨w, h, hw⟩ := lps h
    have KB : ∀ (v0_ : Int32) (v1_ : Int32) (v2_ : Int32), w = .inl (v0_, v1_, v2_) → ∀ (H : Heap) (locs : List Loc) (ls : Array Slot), Wd g s σ H locs → lv_has ls 4 [(0, .ref (g.2.2 (0))), (1, .int (v0_)), (2, .int (v1_)), (3, .int (v2_))] → W p l e (rmT 6 110 1 6) s m args below meth c H locs 0 0 Q (F0 m 6 ls []) := fun v0_ v1_ v2_ e H locs ls Y hl => ih (v0_, v1_, v2_) Y hl (lpl hw e)
    have KX0 := fun (v0_ : Int32) (v1_ : Int32) (e : w = .inr (v0_, v1_)) => KX0 v0_ v1_ (lpr hw e)
    unfold f_X10_usedShare_l6 at h
    refine lv_iload_n X.1 X.2.1 (dk T_X10_usedShare 6 rfl) rfl (lv_at hl 3 rfl) ?_
    refine lv_aload_n X.1 X.2.1 (dk T_X10_usedShare 7 rfl) rfl (lv_at hl 0 rfl) ?_
    refine gg X Y fl_X10_12 rfl rfl (dk T_X10_usedShare 8 rfl) ?_
    refine ggN X Y fl_X10_93 rfl rfl (dk T_X10_usedShare 9 rfl) ?_
    obtain ⟨q1, hq1, h⟩ := bs h
    refine gvIx (rest := [.int (z.2.2)]) X Y (c_X9_size 2 rfl σ hq1) cb_X10_209 rfl hl.1 rfl rfl (Nat.le_of_ble_eq_true rfl) ⟨Nat.le_of_ble_eq_true rfl, Nat.le_of_ble_eq_true rfl⟩ ⟨Nat.le_of_ble_eq_true rfl, Nat.le_of_ble_eq_true rfl⟩ (dk T_X10_usedShare 10 rfl) (fun H locs Y => ?_)
    refine lv_icmp_ge (tgt := 59) X.1 X.2.1 (dk T_X10_usedShare 11 rfl) rfl (fun c2 => ?_) (fun c2 => ?_)
    · replace h := ipos c2 h
      exact KX0 z.1 z.2.1 (Option.some.inj h).symm _ _ _ Y (lv_sub hl [1, 2] rfl)
    · replace h := ineg c2 h
      refine lv_iload_n X.1 X.2.1 (dk T_X10_usedShare 12 rfl) rfl (lv_at hl 1 rfl) ?_
      refine lv_aload_n X.1 X.2.1 (dk T_X10_usedShare 13 rfl) rfl (lv_at hl 0 rfl) ?_
      refine gg X Y fl_X10_12 rfl rfl (dk T_X10_usedShare 14 rfl) ?_
      refine lv_iload_n X.1 X.2.1 (dk T_X10_usedShare 15 rfl) rfl (lv_at hl 3 rfl) ?_
      obtain ⟨q3, hq3, h⟩ := bs h
      refine gvIx (rest := [.int (z.1)]) X Y (c_X8_coveredCells 1 rfl z.2.2 σ hq3) cb_X10_159 rfl hl.1 rfl rfl (Nat.le_of_ble_eq_true rfl) ⟨Nat.le_of_ble_eq_true rfl, Nat.le_of_ble_eq_true rfl⟩ ⟨Nat.le_of_ble_eq_true rfl, Nat.le_of_ble_eq_true rfl⟩ (dk T_X10_usedShare 16 rfl) (fun H locs Y => ?_)
      refine lv_iadd X.1 X.2.1 (dk T_X10_usedShare 17 rfl) ?_
      refine lv_istore_n (lv' := [(1, .int (z.1 + q3)), (0, .ref (g.2.2 (0))), (2, .int (z.2.1)), (3, .int (z.2.2))]) X.1 X.2.1 (dk T_X10_usedShare 18 rfl) rfl hl (Nat.le_of_ble_eq_true rfl) rfl (fun ls hl => ?_)
      refine lv_iload_n X.1 X.2.1 (dk T_X10_usedShare 19 rfl) rfl (lv_at hl 2 rfl) ?_
      refine lv_aload_n X.1 X.2.1 (dk T_X10_usedShare 20 rfl) rfl (lv_at hl 1 rfl) ?_
      refine gg X Y fl_X10_12 rfl rfl (dk T_X10_usedShare 21 rfl) ?_
      refine lv_iload_n X.1 X.2.1 (dk T_X10_usedShare 22 rfl) rfl (lv_at hl 3 rfl) ?_
      obtain ⟨q4, hq4, h⟩ := bs h
      refine gvIx (rest := [.int (z.2.1)]) X Y (c_X8_cellsOf 1 rfl z.2.2 σ hq4) cb_X10_277 rfl hl.1 rfl rfl (Nat.le_of_ble_eq_true rfl) ⟨Nat.le_of_ble_eq_true rfl, Nat.le_of_ble_eq_true rfl⟩ ⟨Nat.le_of_ble_eq_true rfl, Nat.le_of_ble_eq_true rfl⟩ (dk T_X10_usedShare 23 rfl) (fun H locs Y => ?_)
      refine lv_aload_n X.1 X.2.1 (dk T_X10_usedShare 24 rfl) rfl (lv_at hl 1 rfl) ?_
      refine gg X Y fl_X10_12 rfl rfl (dk T_X10_usedShare 25 rfl) ?_
      refine lv_iload_n X.1 X.2.1 (dk T_X10_usedShare 26 rfl) rfl (lv_at hl 3 rfl) ?_
      refine lv_bipush (v := (-2)) X.1 X.2.1 (dk T_X10_usedShare 27 rfl) bp_m2 ?_
      obtain ⟨q5, hq5, h⟩ := bs h
      refine gvIx (rest := [.int (q4), .int (z.2.1)]) X Y (c_X8_cellsWith 1 rfl z.2.2 (-2) σ hq5) cb_X10_149 rfl hl.1 rfl rfl (Nat.le_of_ble_eq_true rfl) ⟨Nat.le_of_ble_eq_true rfl, Nat.le_of_ble_eq_true rfl⟩ ⟨Nat.le_of_ble_eq_true rfl, Nat.le_of_ble_eq_true rfl⟩ (dk T_X10_usedShare 28 rfl) (fun H locs Y => ?_)
      refine lv_isub X.1 X.2.1 (dk T_X10_usedShare 29 rfl) ?_
      refine lv_iadd X.1 X.2.1 (dk T_X10_usedShare 30 rfl) ?_
      refine lv_istore_n (lv' := [(2, .int (z.2.1 + (q4 - q5))), (1, .int (z.1 + q3)), (0, .ref (g.2.2 (0))), (3, .int (z.2.2))]) X.1 X.2.1 (dk T_X10_usedShare 31 rfl) rfl hl (Nat.le_of_ble_eq_true rfl) rfl (fun ls hl => ?_)
      refine lv_iinc (v := z.2.2 + 1) (lv' := [(3, .int (z.2.2 + 1)), (2, .int (z.2.1 + (q4 - q5))), (1, .int (z.1 + q3)), (0, .ref (g.2.2 (0)))]) X.1 X.2.1 (dk T_X10_usedShare 32 rfl) hl (k := 3) rfl (icx ic_1) (Nat.le_of_ble_eq_true rfl) rfl (fun ls hl => ?_)
      refine lv_goto (tgt := 6) X.1 X.2.1 (dk T_X10_usedShare 33 rfl) rfl ?_
      exact KB (z.1 + q3) (z.2.1 + (q4 - q5)) (z.2.2 + 1) (Option.some.inj h).symm _ _ _ Y (lv_sub hl [3, 2, 1, 0] rfl)
def f_X10_usedShare_0 (σ : St) : Option ((String × St) ⊕ (Int32 × St)) :=
  (lp (f_X10_usedShare_l6 σ) FU (0, 0, 0)).bind fun q6 => if 1 ≤ q6.2 then chk (nf32 (FP.fdiv (FP.i2f q6.1) (FP.i2f q6.2))) (some (.inr ((FP.fdiv (FP.i2f q6.1) (FP.i2f q6.2)).toInt32, σ))) else some (.inl ("java/lang/ArithmeticException", σ))
set_option maxHeartbeats 4000000 in
set_option maxRecDepth 100000 in
theorem w_X10_usedShare_0 (X : Cx g RX10 cX10_usedShare 4 (some .float) p s m args meth c) (TX : TXs g (GA g s.heap.size) s s.heap) (hst : l.stackTraces = false) (σ : St) {w : (String × St) ⊕ (Int32 × St)} (KR : ∀ (v : UInt32) (τ : St) (H : Heap) (locs : List Loc) (ls : Array Slot) (pc k n : Nat), w = .inr (v.toInt32, τ) → k ≤ 1 → n ≤ 6 → Wd g s τ H locs → decode cX10_usedShare pc = .ok (.freturn, 1) → W p l e (rmT 6 110 1 6) s m args below meth c H locs k n Q (F0 m pc ls [.float v])) (KT : ∀ (E text : String) (ik is ic : Nat) (τ : St) (H : Heap) (locs : List Loc) (ls : Array Slot) (pc : Nat) (rest : List Value) (k n : Nat), THx RX10 E text ik is ic → w = .inl (E, τ) → Wd g s τ H locs → ls.size = 4 → (rest.map fun v => v.category).sum ≤ 8 → (decode cX10_usedShare pc = .ok (.new ik, 3) ∧ decode cX10_usedShare (pc + 3) = .ok (.dup, 1) ∧ ((decode cX10_usedShare (pc + 4) = .ok (.ldc is, 2) ∧ decode cX10_usedShare (pc + 6) = .ok (.invokespecial ic, 3) ∧ decode cX10_usedShare (pc + 9) = .ok (.athrow, 1)) ∨ (decode cX10_usedShare (pc + 4) = .ok (.ldc_w is, 3) ∧ decode cX10_usedShare (pc + 7) = .ok (.invokespecial ic, 3) ∧ decode cX10_usedShare (pc + 10) = .ok (.athrow, 1)))) → k + 1 ≤ 1 → n + 6 ≤ 6 → W p l e (rmT 6 110 1 6) s m args below meth c H locs k n Q (F0 m pc ls rest)) (KO : ∀ (E : String) (τ : St) (ce : Cell) (q9 : Addr) (H : Heap) (locs : List Loc) (ls : Array Slot) (pc : Nat) (rest : List Value) (k n : Nat), w = .inl (E, τ) → Wd g s τ H locs → H[q9]? = some ce → ce.vm = .none → s.vm.findClass E = some ce.cls → k ≤ 1 → n ≤ 6 → vx_W p l e (rmT 6 110 1 6) s m args below meth c H locs k n Q (F0 m pc ls rest) q9) {H : Heap} {locs : List Loc} {ls : Array Slot} (Y : Wd g s σ H locs) (hl : lv_has ls 4 [(0, .ref (g.2.2 (0)))]) (h : f_X10_usedShare_0 σ = some w) : W p l e (rmT 6 110 1 6) s m args below meth c H locs 0 0 Q (F0 m 0 ls []) := by
  unfold f_X10_usedShare_0 at h
  refine lv_iconst (v := 0) X.1 X.2.1 (dk T_X10_usedShare 0 rfl) ic_0 ?_
  refine lv_istore_n (lv' := [(1, .int (0)), (0, .ref (g.2.2 (0)))]) X.1 X.2.1 (dk T_X10_usedShare 1 rfl) rfl hl (Nat.le_of_ble_eq_true rfl) rfl (fun ls hl => ?_)
  refine lv_iconst (v := 0) X.1 X.2.1 (dk T_X10_usedShare 2 rfl) ic_0 ?_
  refine lv_istore_n (lv' := [(2, .int (0)), (1, .int (0)), (0, .ref (g.2.2 (0)))]) X.1 X.2.1 (dk T_X10_usedShare 3 rfl) rfl hl (Nat.le_of_ble_eq_true rfl) rfl (fun ls hl => ?_)
  refine lv_iconst (v := 0) X.1 X.2.1 (dk T_X10_usedShare 4 rfl) ic_0 ?_
  refine lv_istore_n (lv' := [(3, .int (0)), (2, .int (0)), (1, .int (0)), (0, .ref (g.2.2 (0)))]) X.1 X.2.1 (dk T_X10_usedShare 5 rfl) rfl hl (Nat.le_of_ble_eq_true rfl) rfl (fun ls hl => ?_)
  obtain ⟨q6, hq6, h⟩ := bs h
  refine w_X10_usedShare_l6 X TX hst σ (fun v0_ v1_ e H locs ls Y hl => ?_) FU (0, 0, 0) Y (lv_sub hl [3, 2, 1, 0] rfl) hq6
  · obtain ⟨rfl, rfl⟩ : v0_ = q6.1 ∧ v1_ = q6.2 := ⟨by rw [e], by rw [e]⟩
    refine lv_iload_n X.1 X.2.1 (dk T_X10_usedShare 34 rfl) rfl (lv_at hl 1 rfl) ?_
    refine lv_iconst (v := 1) X.1 X.2.1 (dk T_X10_usedShare 35 rfl) ic_1 ?_
    refine lv_icmp_ge (tgt := 75) X.1 X.2.1 (dk T_X10_usedShare 36 rfl) rfl (fun c7 => ?_) (fun c7 => ?_)
    · replace h := ipos c7 h
      refine lv_iload_n X.1 X.2.1 (dk T_X10_usedShare 42 rfl) rfl (lv_at hl 0 rfl) ?_
      refine lv_i2f X.1 X.2.1 (dk T_X10_usedShare 43 rfl) ?_
      refine lv_iload_n X.1 X.2.1 (dk T_X10_usedShare 44 rfl) rfl (lv_at hl 1 rfl) ?_
      refine lv_i2f X.1 X.2.1 (dk T_X10_usedShare 45 rfl) ?_
      obtain ⟨g8, h⟩ := gd h
      refine lv_fdiv X.1 X.2.1 (dk T_X10_usedShare 46 rfl) (nf32p g8) ?_
      exact KR (FP.fdiv (FP.i2f q6.1) (FP.i2f q6.2)) σ _ _ _ _ _ _ (Option.some.inj h).symm (Nat.le_of_ble_eq_true rfl) (Nat.le_of_ble_eq_true rfl) Y (dk T_X10_usedShare 47 rfl)
    · replace h := ineg c7 h
      exact KT "java/lang/ArithmeticException" "there are no usable cells" 280 282 284 _ _ _ _ _ _ _ _ th_280_282_284 (Option.some.inj h).symm Y hl.1 (Nat.le_of_ble_eq_true rfl) ⟨(dk T_X10_usedShare 37 rfl), (dk T_X10_usedShare 38 rfl), Or.inr ⟨(dk T_X10_usedShare 39 rfl), (dk T_X10_usedShare 40 rfl), (dk T_X10_usedShare 41 rfl)⟩⟩ (Nat.le_of_ble_eq_true rfl) (Nat.le_of_ble_eq_true rfl)
def f_X10_usedShare (σ : St) : Option ((String × St) ⊕ (Int32 × St)) := f_X10_usedShare_0 σ
set_option maxHeartbeats 4000000 in
set_option maxRecDepth 100000 in
theorem c_X10_usedShare {l : Launch} {g : Geo} (σ : St) {w : (String × St) ⊕ (Int32 × St)} (h : f_X10_usedShare σ = some w) : CtTF l yX10_usedShare cX10_usedShare 4 (some .float) 6 110 1 6 g [.ref (g.2.2 (0))] σ w := enTF (by decide) rfl (Nat.le_of_ble_eq_true rfl) ⟨Nat.le_of_ble_eq_true rfl, Nat.le_of_ble_eq_true rfl⟩ (fun p e s m args below meth c Q X TX hst Y ls hl KR KT KO => w_X10_usedShare_0 X TX hst σ KR KT KO Y hl h)
end
