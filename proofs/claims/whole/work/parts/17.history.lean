theorem cb_X2_25 : CBV RX2 25 yX2_shopAt cX2_shopAt 2 (some (.object "SheetNester$Shop")) 1 4 := ⟨⟨mw 6 0 rfl rfl, mw 0 22 rfl rfl, mw 6 3 rfl rfl, by decide, by decide, by decide +kernel⟩, mw 6 1 rfl rfl, mw 6 2 rfl rfl, TX2, 3, tyX2, cl_X2⟩
theorem cb_X2_29 : CBV RX2 29 yX8_copyFrom cX8_copyFrom 2 none 1 9 := ⟨⟨mw 6 4 rfl rfl, mw 0 16 rfl rfl, mw 6 7 rfl rfl, by decide, by decide, by decide +kernel⟩, mw 6 5 rfl rfl, mw 6 6 rfl rfl, TX8, 3, tyX8, cl_X8⟩
theorem mb_X2_33 : MB RX2 33 Lib.Math.min.name Lib.Math.min.code 2 := ⟨mw 5 28 rfl rfl, mw 5 29 rfl rfl, mw 5 30 rfl rfl, mw 5 31 rfl rfl⟩
section
variable {p : Program} {l : Launch} {e : Env} {s : State} {m : MethodId} {args : Array Value} {below : List Frame} {meth : Method} {c : Code} {Q : State → Prop} {g : Geo}
def I_X2_shopAt : List (Nat × Instr × Nat) := [(0, .iload_n 1, 1), (1, .ifCond .lt 21, 3), (4, .iload_n 1, 1), (5, .aload_n 0, 1), (6, .getfield 11, 3), (9, .arraylength, 1), (10, .if_icmp .ge 12, 3), (13, .aload_n 0, 1), (14, .getfield 11, 3), (17, .iload_n 1, 1), (18, .aaload, 1), (19, .goto 4, 3), (22, .aconst_null, 1), (23, .areturn, 1)]
set_option maxRecDepth 100000 in
theorem T_X2_shopAt : ∀ q ∈ I_X2_shopAt, decode cX2_shopAt q.1 = .ok (q.2.1, q.2.2) := by decide +kernel
def f_X2_shopAt_j22 (σ : St) : Option (Option Nat) :=
  some (none)
set_option maxHeartbeats 4000000 in
set_option maxRecDepth 100000 in
theorem w_X2_shopAt_j22 (X : Cx g RX2 cX2_shopAt 2 (some (.object "SheetNester$Shop")) p s m args meth c) (σ : St) {w : Option Nat} (KR : ∀ (H : Heap) (locs : List Loc) (ls : Array Slot) (pc : Nat), Wd g s σ H locs → decode cX2_shopAt pc = .ok (.areturn, 1) → W p l e (rmm 0 0) s m args below meth c H locs 0 0 Q (F0 m pc ls [va_rf (w.map g.2.2)])) {H : Heap} {locs : List Loc} {ls : Array Slot} (Y : Wd g s σ H locs) (hl : lv_has ls 2 []) (h : f_X2_shopAt_j22 σ = some w) : W p l e (rmm 0 0) s m args below meth c H locs 0 0 Q (F0 m 22 ls []) := by
  unfold f_X2_shopAt_j22 at h
  refine lv_null X.1 X.2.1 (dk T_X2_shopAt 12 rfl) ?_
  obtain rfl := Option.some.inj h
  exact KR _ _ _ _ Y (dk T_X2_shopAt 13 rfl)
def f_X2_shopAt_0 (x1 : Int32) (σ : St) : Option (Option Nat) :=
  if x1 < 0 then f_X2_shopAt_j22 σ else if 8 ≤ x1 then f_X2_shopAt_j22 σ else chk (inb x1 8) (some (some (22 + 7 * x1.toNatClampNeg)))
set_option maxHeartbeats 4000000 in
set_option maxRecDepth 100000 in
theorem w_X2_shopAt_0 (X : Cx g RX2 cX2_shopAt 2 (some (.object "SheetNester$Shop")) p s m args meth c) (x1 : Int32) (σ : St) {w : Option Nat} (KR : ∀ (H : Heap) (locs : List Loc) (ls : Array Slot) (pc : Nat), Wd g s σ H locs → decode cX2_shopAt pc = .ok (.areturn, 1) → W p l e (rmm 0 0) s m args below meth c H locs 0 0 Q (F0 m pc ls [va_rf (w.map g.2.2)])) {H : Heap} {locs : List Loc} {ls : Array Slot} (Y : Wd g s σ H locs) (hl : lv_has ls 2 [(0, .ref (g.2.2 (78))), (1, .int (x1))]) (h : f_X2_shopAt_0 x1 σ = some w) : W p l e (rmm 0 0) s m args below meth c H locs 0 0 Q (F0 m 0 ls []) := by
  unfold f_X2_shopAt_0 at h
  refine lv_iload_n X.1 X.2.1 (dk T_X2_shopAt 0 rfl) rfl (lv_at hl 1 rfl) ?_
  refine lv_if_lt (tgt := 22) X.1 X.2.1 (dk T_X2_shopAt 1 rfl) rfl (fun c1 => ?_) (fun c1 => ?_)
  · replace h := ipos c1 h
    exact w_X2_shopAt_j22 X σ KR Y (lv_sub hl [] rfl) h
  · replace h := ineg c1 h
    refine lv_iload_n X.1 X.2.1 (dk T_X2_shopAt 2 rfl) rfl (lv_at hl 1 rfl) ?_
    refine lv_aload_n X.1 X.2.1 (dk T_X2_shopAt 3 rfl) rfl (lv_at hl 0 rfl) ?_
    refine gg X Y fl_X2_11 rfl rfl (dk T_X2_shopAt 4 rfl) ?_
    refine gal3 X Y (v := 8) rfl (by decide) (dk T_X2_shopAt 5 rfl) ?_
    refine lv_icmp_ge (tgt := 22) X.1 X.2.1 (dk T_X2_shopAt 6 rfl) rfl (fun c2 => ?_) (fun c2 => ?_)
    · replace h := ipos c2 h
      exact w_X2_shopAt_j22 X σ KR Y (lv_sub hl [] rfl) h
    · replace h := ineg c2 h
      refine lv_aload_n X.1 X.2.1 (dk T_X2_shopAt 7 rfl) rfl (lv_at hl 0 rfl) ?_
      refine gg X Y fl_X2_11 rfl rfl (dk T_X2_shopAt 8 rfl) ?_
      refine lv_iload_n X.1 X.2.1 (dk T_X2_shopAt 9 rfl) rfl (lv_at hl 1 rfl) ?_
      obtain ⟨g3, h⟩ := gd h
      refine gaa X Y rfl (inp g3) (dk T_X2_shopAt 10 rfl) ?_
      refine lv_goto (tgt := 23) X.1 X.2.1 (dk T_X2_shopAt 11 rfl) rfl ?_
      obtain rfl := Option.some.inj h
      exact KR _ _ _ _ Y (dk T_X2_shopAt 13 rfl)
def f_X2_shopAt (x1 : Int32) (σ : St) : Option (Option Nat) := f_X2_shopAt_0 x1 σ
set_option maxHeartbeats 4000000 in
set_option maxRecDepth 100000 in
theorem c_X2_shopAt {l : Launch} {g : Geo} (x1 : Int32) (σ : St) {w : Option Nat} (h : f_X2_shopAt x1 σ = some w) : CtQ l yX2_shopAt cX2_shopAt 2 (some (.object "SheetNester$Shop")) (rmm 0 0) g [.ref (g.2.2 (78)), .int (x1)] σ w := enQ _ (by decide) rfl (Or.inl ⟨_, rfl⟩) (Nat.le_of_ble_eq_true rfl) (fun p e s m args below meth c Q X Y ls hl KR => w_X2_shopAt_0 X x1 σ KR Y hl h)
def I_X2_push : List (Nat × Instr × Nat) := [(0, .aload_n 0, 1), (1, .aload_n 0, 1), (2, .getfield 18, 3), (5, .invokevirtual 25, 3), (8, .astore_n 2, 1), (9, .aload_n 2, 1), (10, .ifnonnull 4, 3), (13, .return_, 1), (14, .aload_n 2, 1), (15, .aload_n 1, 1), (16, .invokevirtual 29, 3), (19, .aload_n 0, 1), (20, .aload_n 0, 1), (21, .getfield 18, 3), (24, .iconst 1, 1), (25, .iadd, 1), (26, .bipush 8, 2), (28, .irem, 1), (29, .putfield 18, 3), (32, .aload_n 0, 1), (33, .aload_n 0, 1), (34, .getfield 22, 3), (37, .iconst 1, 1), (38, .iadd, 1), (39, .bipush 8, 2), (41, .invokestatic 33, 3), (44, .putfield 22, 3), (47, .return_, 1)]
set_option maxRecDepth 100000 in
theorem T_X2_push : ∀ q ∈ I_X2_push, decode cX2_push q.1 = .ok (q.2.1, q.2.2) := by decide +kernel
def f_X2_push_0 (t1 : Nat) (σ : St) : Option (St) :=
  (f_X2_shopAt (σ 78 1) σ).bind fun q1 => Option.elim q1 (some σ) (fun v2 => chk (kd9 v2) ((f_X8_copyFrom v2 t1 σ).bind fun q4 => chk (nz 8) (some (up (up q4 78 1 (((q4 78 1) + 1) - ((q4 78 1) + 1) / 8 * 8)) 78 2 (if 8 < ((up q4 78 1 (((q4 78 1) + 1) - ((q4 78 1) + 1) / 8 * 8) 78 2) + 1) then 8 else ((up q4 78 1 (((q4 78 1) + 1) - ((q4 78 1) + 1) / 8 * 8) 78 2) + 1))))))
set_option maxHeartbeats 4000000 in
set_option maxRecDepth 100000 in
theorem w_X2_push_0 (X : Cx g RX2 cX2_push 3 none p s m args meth c) (t1 : Nat) (hk1 : kd t1 = 9) (σ : St) {w : St} (KR : ∀ (H : Heap) (locs : List Loc) (ls : Array Slot) (pc : Nat), Wd g s w H locs → decode cX2_push pc = .ok (.return_, 1) → W p l e (rmm 3 82) s m args below meth c H locs 0 0 Q (F0 m pc ls [])) {H : Heap} {locs : List Loc} {ls : Array Slot} (Y : Wd g s σ H locs) (hl : lv_has ls 3 [(0, .ref (g.2.2 (78))), (1, .ref (g.2.2 (t1)))]) (h : f_X2_push_0 t1 σ = some w) : W p l e (rmm 3 82) s m args below meth c H locs 0 0 Q (F0 m 0 ls []) := by
  unfold f_X2_push_0 at h
  refine lv_aload_n X.1 X.2.1 (dk T_X2_push 0 rfl) rfl (lv_at hl 0 rfl) ?_
  refine lv_aload_n X.1 X.2.1 (dk T_X2_push 1 rfl) rfl (lv_at hl 0 rfl) ?_
  refine gg X Y fl_X2_18 rfl rfl (dk T_X2_push 2 rfl) ?_
  obtain ⟨q1, hq1, h⟩ := bs h
  refine gvQ (rest := []) X Y (c_X2_shopAt (σ 78 1) σ hq1) cb_X2_25 rfl hl.1 rfl rfl (Nat.le_of_ble_eq_true rfl) ⟨Nat.le_of_ble_eq_true rfl, Nat.le_of_ble_eq_true rfl⟩ (dk T_X2_push 3 rfl) (fun H locs Y => ?_)
  rcases q1 with _ | v2
  · replace h := elN h
    refine W.eq (g2 := F0 m 8 ls [.null]) rfl ?_
    refine lv_astore_nN (lv' := [(2, .null), (0, .ref (g.2.2 (78))), (1, .ref (g.2.2 (t1)))]) X.1 X.2.1 (dk T_X2_push 4 rfl) rfl hl (Nat.le_of_ble_eq_true rfl) rfl (fun ls hl => ?_)
    refine lv_aload_nN X.1 X.2.1 (dk T_X2_push 5 rfl) rfl (lv_at hl 0 rfl) ?_
    refine lv_ifnonnullN X.1 X.2.1 (dk T_X2_push 6 rfl) ?_
    obtain rfl := Option.some.inj h
    exact KR _ _ _ _ Y (dk T_X2_push 7 rfl)
  · replace h := elS h
    obtain ⟨g3, h⟩ := gd h
    refine W.eq (g2 := F0 m 8 ls [.ref (g.2.2 (v2))]) rfl ?_
    refine lv_astore_n (lv' := [(2, .ref (g.2.2 (v2))), (0, .ref (g.2.2 (78))), (1, .ref (g.2.2 (t1)))]) X.1 X.2.1 (dk T_X2_push 4 rfl) rfl hl (Nat.le_of_ble_eq_true rfl) rfl (fun ls hl => ?_)
    refine lv_aload_n X.1 X.2.1 (dk T_X2_push 5 rfl) rfl (lv_at hl 0 rfl) ?_
    refine lv_ifnonnull (tgt := 14) X.1 X.2.1 (dk T_X2_push 6 rfl) rfl ?_
    refine lv_aload_n X.1 X.2.1 (dk T_X2_push 8 rfl) rfl (lv_at hl 0 rfl) ?_
    refine lv_aload_n X.1 X.2.1 (dk T_X2_push 9 rfl) rfl (lv_at hl 2 rfl) ?_
    obtain ⟨q4, hq4, h⟩ := bs h
    refine gvV (rest := []) X Y (c_X8_copyFrom v2 t1 (k9p g3) hk1 σ hq4) cb_X2_29 (k9p g3) hl.1 rfl rfl (Nat.le_of_ble_eq_true rfl) ⟨Nat.le_of_ble_eq_true rfl, Nat.le_of_ble_eq_true rfl⟩ (dk T_X2_push 10 rfl) (fun H locs Y => ?_)
    refine lv_aload_n X.1 X.2.1 (dk T_X2_push 11 rfl) rfl (lv_at hl 1 rfl) ?_
    refine lv_aload_n X.1 X.2.1 (dk T_X2_push 12 rfl) rfl (lv_at hl 1 rfl) ?_
    refine gg X Y fl_X2_18 rfl rfl (dk T_X2_push 13 rfl) ?_
    refine lv_iconst (v := 1) X.1 X.2.1 (dk T_X2_push 14 rfl) ic_1 ?_
    refine lv_iadd X.1 X.2.1 (dk T_X2_push 15 rfl) ?_
    refine lv_bipush (v := 8) X.1 X.2.1 (dk T_X2_push 16 rfl) bp_8 ?_
    obtain ⟨g5, h⟩ := gd h
    refine lv_irem X.1 X.2.1 (dk T_X2_push 17 rfl) (nzp g5) ?_
    refine gp X Y fp_X2_18 rfl (nar_int _) (dk T_X2_push 18 rfl) (fun H locs Y => ?_)
    refine lv_aload_n X.1 X.2.1 (dk T_X2_push 19 rfl) rfl (lv_at hl 1 rfl) ?_
    refine lv_aload_n X.1 X.2.1 (dk T_X2_push 20 rfl) rfl (lv_at hl 1 rfl) ?_
    refine gg X Y fl_X2_22 rfl rfl (dk T_X2_push 21 rfl) ?_
    refine lv_iconst (v := 1) X.1 X.2.1 (dk T_X2_push 22 rfl) ic_1 ?_
    refine lv_iadd X.1 X.2.1 (dk T_X2_push 23 rfl) ?_
    refine lv_bipush (v := 8) X.1 X.2.1 (dk T_X2_push 24 rfl) bp_8 ?_
    refine gm_min X mb_X2_33 hl.1 (Nat.le_of_ble_eq_true rfl) (Nat.le_of_ble_eq_true rfl) (dk T_X2_push 25 rfl) ?_
    refine gp X Y fp_X2_22 rfl (nar_int _) (dk T_X2_push 26 rfl) (fun H locs Y => ?_)
    obtain rfl := Option.some.inj h
    exact KR _ _ _ _ Y (dk T_X2_push 27 rfl)
def f_X2_push (t1 : Nat) (σ : St) : Option (St) := f_X2_push_0 t1 σ
set_option maxHeartbeats 4000000 in
set_option maxRecDepth 100000 in
theorem c_X2_push {l : Launch} {g : Geo} (t1 : Nat) (hk1 : kd t1 = 9) (σ : St) {w : St} (h : f_X2_push t1 σ = some w) : CtV l yX2_push cX2_push 3 none (rmm 3 82) g [.ref (g.2.2 (78)), .ref (g.2.2 (t1))] σ w := enV (by decide) rfl (Nat.le_of_ble_eq_true rfl) (fun p e s m args below meth c Q X Y ls hl KR => w_X2_push_0 X t1 hk1 σ KR Y hl h)
def I_X2_pop : List (Nat × Instr × Nat) := [(0, .aload_n 0, 1), (1, .getfield 18, 3), (4, .bipush 8, 2), (6, .iadd, 1), (7, .iconst 1, 1), (8, .isub, 1), (9, .bipush 8, 2), (11, .irem, 1), (12, .istore_n 2, 1), (13, .aload_n 0, 1), (14, .iload_n 2, 1), (15, .invokevirtual 25, 3), (18, .astore_n 3, 1), (19, .aload_n 3, 1), (20, .ifnull 11, 3), (23, .aload_n 0, 1), (24, .getfield 22, 3), (27, .iconst 1, 1), (28, .if_icmp .ge 4, 3), (31, .return_, 1), (32, .aload_n 1, 1), (33, .aload_n 3, 1), (34, .invokevirtual 29, 3), (37, .aload_n 0, 1), (38, .iload_n 2, 1), (39, .putfield 18, 3), (42, .aload_n 0, 1), (43, .dup, 1), (44, .getfield 22, 3), (47, .iconst 1, 1), (48, .isub, 1), (49, .putfield 22, 3), (52, .return_, 1)]
set_option maxRecDepth 100000 in
theorem T_X2_pop : ∀ q ∈ I_X2_pop, decode cX2_pop q.1 = .ok (q.2.1, q.2.2) := by decide +kernel
def f_X2_pop_0 (t1 : Nat) (σ : St) : Option (St) :=
  chk (nz 8) ((f_X2_shopAt ((((σ 78 1) + 8) - 1) - (((σ 78 1) + 8) - 1) / 8 * 8) σ).bind fun q2 => Option.elim q2 (some σ) (fun v3 => chk (kd9 v3) (if 1 ≤ (σ 78 2) then (f_X8_copyFrom t1 v3 σ).bind fun q6 => some (up (up q6 78 1 ((((σ 78 1) + 8) - 1) - (((σ 78 1) + 8) - 1) / 8 * 8)) 78 2 ((up q6 78 1 ((((σ 78 1) + 8) - 1) - (((σ 78 1) + 8) - 1) / 8 * 8) 78 2) - 1)) else some σ)))
set_option maxHeartbeats 4000000 in
set_option maxRecDepth 100000 in
theorem w_X2_pop_0 (X : Cx g RX2 cX2_pop 4 none p s m args meth c) (t1 : Nat) (hk1 : kd t1 = 9) (σ : St) {w : St} (KR : ∀ (H : Heap) (locs : List Loc) (ls : Array Slot) (pc : Nat), Wd g s w H locs → decode cX2_pop pc = .ok (.return_, 1) → W p l e (rmm 3 82) s m args below meth c H locs 0 0 Q (F0 m pc ls [])) {H : Heap} {locs : List Loc} {ls : Array Slot} (Y : Wd g s σ H locs) (hl : lv_has ls 4 [(0, .ref (g.2.2 (78))), (1, .ref (g.2.2 (t1)))]) (h : f_X2_pop_0 t1 σ = some w) : W p l e (rmm 3 82) s m args below meth c H locs 0 0 Q (F0 m 0 ls []) := by
  unfold f_X2_pop_0 at h
  refine lv_aload_n X.1 X.2.1 (dk T_X2_pop 0 rfl) rfl (lv_at hl 0 rfl) ?_
  refine gg X Y fl_X2_18 rfl rfl (dk T_X2_pop 1 rfl) ?_
  refine lv_bipush (v := 8) X.1 X.2.1 (dk T_X2_pop 2 rfl) bp_8 ?_
  refine lv_iadd X.1 X.2.1 (dk T_X2_pop 3 rfl) ?_
  refine lv_iconst (v := 1) X.1 X.2.1 (dk T_X2_pop 4 rfl) ic_1 ?_
  refine lv_isub X.1 X.2.1 (dk T_X2_pop 5 rfl) ?_
  refine lv_bipush (v := 8) X.1 X.2.1 (dk T_X2_pop 6 rfl) bp_8 ?_
  obtain ⟨g1, h⟩ := gd h
  refine lv_irem X.1 X.2.1 (dk T_X2_pop 7 rfl) (nzp g1) ?_
  refine lv_istore_n (lv' := [(2, .int ((((σ 78 1) + 8) - 1) - (((σ 78 1) + 8) - 1) / 8 * 8)), (0, .ref (g.2.2 (78))), (1, .ref (g.2.2 (t1)))]) X.1 X.2.1 (dk T_X2_pop 8 rfl) rfl hl (Nat.le_of_ble_eq_true rfl) rfl (fun ls hl => ?_)
  refine lv_aload_n X.1 X.2.1 (dk T_X2_pop 9 rfl) rfl (lv_at hl 1 rfl) ?_
  refine lv_iload_n X.1 X.2.1 (dk T_X2_pop 10 rfl) rfl (lv_at hl 0 rfl) ?_
  obtain ⟨q2, hq2, h⟩ := bs h
  refine gvQ (rest := []) X Y (c_X2_shopAt ((((σ 78 1) + 8) - 1) - (((σ 78 1) + 8) - 1) / 8 * 8) σ hq2) cb_X2_25 rfl hl.1 rfl rfl (Nat.le_of_ble_eq_true rfl) ⟨Nat.le_of_ble_eq_true rfl, Nat.le_of_ble_eq_true rfl⟩ (dk T_X2_pop 11 rfl) (fun H locs Y => ?_)
  rcases q2 with _ | v3
  · replace h := elN h
    refine W.eq (g2 := F0 m 18 ls [.null]) rfl ?_
    refine lv_astore_nN (lv' := [(3, .null), (2, .int ((((σ 78 1) + 8) - 1) - (((σ 78 1) + 8) - 1) / 8 * 8)), (0, .ref (g.2.2 (78))), (1, .ref (g.2.2 (t1)))]) X.1 X.2.1 (dk T_X2_pop 12 rfl) rfl hl (Nat.le_of_ble_eq_true rfl) rfl (fun ls hl => ?_)
    refine lv_aload_nN X.1 X.2.1 (dk T_X2_pop 13 rfl) rfl (lv_at hl 0 rfl) ?_
    refine lv_ifnullN (tgt := 31) X.1 X.2.1 (dk T_X2_pop 14 rfl) rfl ?_
    obtain rfl := Option.some.inj h
    exact KR _ _ _ _ Y (dk T_X2_pop 19 rfl)
  · replace h := elS h
    obtain ⟨g4, h⟩ := gd h
    refine W.eq (g2 := F0 m 18 ls [.ref (g.2.2 (v3))]) rfl ?_
    refine lv_astore_n (lv' := [(3, .ref (g.2.2 (v3))), (2, .int ((((σ 78 1) + 8) - 1) - (((σ 78 1) + 8) - 1) / 8 * 8)), (0, .ref (g.2.2 (78))), (1, .ref (g.2.2 (t1)))]) X.1 X.2.1 (dk T_X2_pop 12 rfl) rfl hl (Nat.le_of_ble_eq_true rfl) rfl (fun ls hl => ?_)
    refine lv_aload_n X.1 X.2.1 (dk T_X2_pop 13 rfl) rfl (lv_at hl 0 rfl) ?_
    refine lv_ifnull X.1 X.2.1 (dk T_X2_pop 14 rfl) ?_
    refine lv_aload_n X.1 X.2.1 (dk T_X2_pop 15 rfl) rfl (lv_at hl 2 rfl) ?_
    refine gg X Y fl_X2_22 rfl rfl (dk T_X2_pop 16 rfl) ?_
    refine lv_iconst (v := 1) X.1 X.2.1 (dk T_X2_pop 17 rfl) ic_1 ?_
    refine lv_icmp_ge (tgt := 32) X.1 X.2.1 (dk T_X2_pop 18 rfl) rfl (fun c5 => ?_) (fun c5 => ?_)
    · replace h := ipos c5 h
      refine lv_aload_n X.1 X.2.1 (dk T_X2_pop 20 rfl) rfl (lv_at hl 3 rfl) ?_
      refine lv_aload_n X.1 X.2.1 (dk T_X2_pop 21 rfl) rfl (lv_at hl 0 rfl) ?_
      obtain ⟨q6, hq6, h⟩ := bs h
      refine gvV (rest := []) X Y (c_X8_copyFrom t1 v3 hk1 (k9p g4) σ hq6) cb_X2_29 hk1 hl.1 rfl rfl (Nat.le_of_ble_eq_true rfl) ⟨Nat.le_of_ble_eq_true rfl, Nat.le_of_ble_eq_true rfl⟩ (dk T_X2_pop 22 rfl) (fun H locs Y => ?_)
      refine lv_aload_n X.1 X.2.1 (dk T_X2_pop 23 rfl) rfl (lv_at hl 2 rfl) ?_
      refine lv_iload_n X.1 X.2.1 (dk T_X2_pop 24 rfl) rfl (lv_at hl 1 rfl) ?_
      refine gp X Y fp_X2_18 rfl (nar_int _) (dk T_X2_pop 25 rfl) (fun H locs Y => ?_)
      refine lv_aload_n X.1 X.2.1 (dk T_X2_pop 26 rfl) rfl (lv_at hl 2 rfl) ?_
      refine lv_dup X.1 X.2.1 (dk T_X2_pop 27 rfl) rfl ?_
      refine gg X Y fl_X2_22 rfl rfl (dk T_X2_pop 28 rfl) ?_
      refine lv_iconst (v := 1) X.1 X.2.1 (dk T_X2_pop 29 rfl) ic_1 ?_
      refine lv_isub X.1 X.2.1 (dk T_X2_pop 30 rfl) ?_
      refine gp X Y fp_X2_22 rfl (nar_int _) (dk T_X2_pop 31 rfl) (fun H locs Y => ?_)
      obtain rfl := Option.some.inj h
      exact KR _ _ _ _ Y (dk T_X2_pop 32 rfl)
    · replace h := ineg c5 h
      obtain rfl := Option.some.inj h
      exact KR _ _ _ _ Y (dk T_X2_pop 19 rfl)
def f_X2_pop (t1 : Nat) (σ : St) : Option (St) := f_X2_pop_0 t1 σ
set_option maxHeartbeats 4000000 in
set_option maxRecDepth 100000 in
theorem c_X2_pop {l : Launch} {g : Geo} (t1 : Nat) (hk1 : kd t1 = 9) (σ : St) {w : St} (h : f_X2_pop t1 σ = some w) : CtV l yX2_pop cX2_pop 4 none (rmm 3 82) g [.ref (g.2.2 (78)), .ref (g.2.2 (t1))] σ w := enV (by decide) rfl (Nat.le_of_ble_eq_true rfl) (fun p e s m args below meth c Q X Y ls hl KR => w_X2_pop_0 X t1 hk1 σ KR Y hl h)
end
