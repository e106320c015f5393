theorem cb_X11_142 : CBV RX11 142 yX11_isUsable cX11_isUsable 3 (some .boolean) 2 12 := ⟨⟨mw 12 28 rfl rfl, mw 0 5 rfl rfl, mw 12 31 rfl rfl, by decide, by decide, by decide +kernel⟩, mw 12 29 rfl rfl, mw 12 30 rfl rfl, TX11, 48, tyX11, cl_X11⟩
theorem cb_X11_145 : CBV RX11 145 yX11_looks cX11_looks 5 none 1 12 := ⟨⟨mw 12 1 rfl rfl, mw 0 5 rfl rfl, mw 12 4 rfl rfl, by decide, by decide, by decide +kernel⟩, mw 12 2 rfl rfl, mw 12 3 rfl rfl, TX11, 48, tyX11, cl_X11⟩
theorem cb_X11_149 : CBV RX11 149 yX11_cells cX11_cells 2 (some .int) 1 12 := ⟨⟨mw 11 29 rfl rfl, mw 0 5 rfl rfl, mw 12 0 rfl rfl, by decide, by decide, by decide +kernel⟩, mw 11 30 rfl rfl, mw 11 31 rfl rfl, TX11, 48, tyX11, cl_X11⟩
theorem cb_X11_152 : CBV RX11 152 yX11_isFree cX11_isFree 3 (some .boolean) 2 12 := ⟨⟨mw 12 24 rfl rfl, mw 0 5 rfl rfl, mw 12 27 rfl rfl, by decide, by decide, by decide +kernel⟩, mw 12 25 rfl rfl, mw 12 26 rfl rfl, TX11, 48, tyX11, cl_X11⟩
theorem cb_X11_155 : CBV RX11 155 yX11_isSheet cX11_isSheet 2 (some .boolean) 1 12 := ⟨⟨mw 11 25 rfl rfl, mw 0 5 rfl rfl, mw 11 28 rfl rfl, by decide, by decide, by decide +kernel⟩, mw 11 26 rfl rfl, mw 11 27 rfl rfl, TX11, 48, tyX11, cl_X11⟩
theorem cb_X11_159 : CBV RX11 159 yX11_free cX11_free 4 (some .int) 1 12 := ⟨⟨mw 13 0 rfl rfl, mw 0 5 rfl rfl, mw 13 3 rfl rfl, by decide, by decide, by decide +kernel⟩, mw 13 1 rfl rfl, mw 13 2 rfl rfl, TX11, 48, tyX11, cl_X11⟩
theorem cb_X11_162 : CBS RX11 162 yX11_isBorder cX11_isBorder 2 (some .boolean) 2 := ⟨⟨mw 15 21 rfl rfl, mw 0 5 rfl rfl, mw 15 23 rfl rfl, by decide, by decide, by decide +kernel⟩, mw 15 22 rfl rfl⟩
theorem cb_X11_168 : CBV RX11 168 yX11_grows cX11_grows 5 none 2 12 := ⟨⟨mw 15 5 rfl rfl, mw 0 5 rfl rfl, mw 15 8 rfl rfl, by decide, by decide, by decide +kernel⟩, mw 15 6 rfl rfl, mw 15 7 rfl rfl, TX11, 48, tyX11, cl_X11⟩
theorem cb_X11_172 : CBV RX11 172 yX11_isBesideGroup cX11_isBesideGroup 6 (some .boolean) 3 12 := ⟨⟨mw 15 9 rfl rfl, mw 0 5 rfl rfl, mw 15 12 rfl rfl, by decide, by decide, by decide +kernel⟩, mw 15 10 rfl rfl, mw 15 11 rfl rfl, TX11, 48, tyX11, cl_X11⟩
theorem cb_X11_175 : CBV RX11 175 yX11_remnants cX11_remnants 3 none 1 12 := ⟨⟨mw 15 1 rfl rfl, mw 0 5 rfl rfl, mw 15 4 rfl rfl, by decide, by decide, by decide +kernel⟩, mw 15 2 rfl rfl, mw 15 3 rfl rfl, TX11, 48, tyX11, cl_X11⟩
theorem cb_X11_178 : CBV RX11 178 yX11_partsOn cX11_partsOn 4 (some .int) 1 12 := ⟨⟨mw 15 13 rfl rfl, mw 0 5 rfl rfl, mw 15 16 rfl rfl, by decide, by decide, by decide +kernel⟩, mw 15 14 rfl rfl, mw 15 15 rfl rfl, TX11, 48, tyX11, cl_X11⟩
theorem cb_X11_181 : CBV RX11 181 yX11_cutsOf cX11_cutsOf 13 (some .int) 3 12 := ⟨⟨mw 15 17 rfl rfl, mw 0 5 rfl rfl, mw 15 20 rfl rfl, by decide, by decide, by decide +kernel⟩, mw 15 18 rfl rfl, mw 15 19 rfl rfl, TX11, 48, tyX11, cl_X11⟩
theorem cb_X11_185 : CBV RX11 185 yX11_areAlike cX11_areAlike 4 (some .boolean) 3 12 := ⟨⟨mw 17 28 rfl rfl, mw 0 5 rfl rfl, mw 17 31 rfl rfl, by decide, by decide, by decide +kernel⟩, mw 17 29 rfl rfl, mw 17 30 rfl rfl, TX11, 48, tyX11, cl_X11⟩
theorem cb_X11_188 : CBV RX11 188 yX11_isShape cX11_isShape 2 (some .boolean) 1 12 := ⟨⟨mw 17 13 rfl rfl, mw 0 5 rfl rfl, mw 17 16 rfl rfl, by decide, by decide, by decide +kernel⟩, mw 17 14 rfl rfl, mw 17 15 rfl rfl, TX11, 48, tyX11, cl_X11⟩
theorem cb_X11_191 : CBS RX11 191 yX11_bits cX11_bits 3 (some .int) 1 := ⟨⟨mw 17 17 rfl rfl, mw 0 5 rfl rfl, mw 17 19 rfl rfl, by decide, by decide, by decide +kernel⟩, mw 17 18 rfl rfl⟩
theorem cb_X11_194 : CBV RX11 194 yX11_partsOf cX11_partsOf 4 (some .int) 1 12 := ⟨⟨mw 17 20 rfl rfl, mw 0 5 rfl rfl, mw 17 23 rfl rfl, by decide, by decide, by decide +kernel⟩, mw 17 21 rfl rfl, mw 17 22 rfl rfl, TX11, 48, tyX11, cl_X11⟩
theorem cb_X11_197 : CBV RX11 197 yX11_differentTurns cX11_differentTurns 6 (some .int) 1 12 := ⟨⟨mw 17 24 rfl rfl, mw 0 5 rfl rfl, mw 17 27 rfl rfl, by decide, by decide, by decide +kernel⟩, mw 17 25 rfl rfl, mw 17 26 rfl rfl, TX11, 48, tyX11, cl_X11⟩
theorem cb_X11_203 : CBV RX11 203 yX11_fitsGrain cX11_fitsGrain 7 (some .boolean) 3 12 := ⟨⟨mw 20 31 rfl rfl, mw 0 5 rfl rfl, mw 21 2 rfl rfl, by decide, by decide, by decide +kernel⟩, mw 21 0 rfl rfl, mw 21 1 rfl rfl, TX11, 48, tyX11, cl_X11⟩
theorem cb_X11_206 : CBV RX11 206 yX11_why cX11_why 4 none 3 12 := ⟨⟨mw 21 3 rfl rfl, mw 0 5 rfl rfl, mw 21 6 rfl rfl, by decide, by decide, by decide +kernel⟩, mw 21 4 rfl rfl, mw 21 5 rfl rfl, TX11, 48, tyX11, cl_X11⟩
theorem cb_X11_210 : CBV RX11 210 yX11_judgesPlace cX11_judgesPlace 12 none 5 12 := ⟨⟨mw 21 7 rfl rfl, mw 0 5 rfl rfl, mw 21 10 rfl rfl, by decide, by decide, by decide +kernel⟩, mw 21 8 rfl rfl, mw 21 9 rfl rfl, TX11, 48, tyX11, cl_X11⟩
theorem cb_X11_214 : CBV RX11 214 yX11_judges cX11_judges 10 none 5 12 := ⟨⟨mw 20 27 rfl rfl, mw 0 5 rfl rfl, mw 20 30 rfl rfl, by decide, by decide, by decide +kernel⟩, mw 20 28 rfl rfl, mw 20 29 rfl rfl, TX11, 48, tyX11, cl_X11⟩
theorem cb_X11_221 : CBV RX11 221 yX11_places cX11_places 7 (some .int) 5 12 := ⟨⟨mw 21 11 rfl rfl, mw 0 5 rfl rfl, mw 21 14 rfl rfl, by decide, by decide, by decide +kernel⟩, mw 21 12 rfl rfl, mw 21 13 rfl rfl, TX11, 48, tyX11, cl_X11⟩
section
variable {p : Program} {l : Launch} {e : Env} {s : State} {m : MethodId} {args : Array Value} {below : List Frame} {meth : Method} {c : Code} {Q : State → Prop} {g : Geo}
def I_X11_isUsable : List (Nat × Instr × Nat) := [(0, .aload_n 0, 1), (1, .getfield 7, 3), (4, .bipush 21, 2), (6, .bipush 100, 2), (8, .iload_n 1, 1), (9, .imul, 1), (10, .iadd, 1), (11, .iload_n 2, 1), (12, .iadd, 1), (13, .iaload, 1), (14, .iconst 1, 1), (15, .if_icmp .ne 7, 3), (18, .iconst 1, 1), (19, .goto 4, 3), (22, .iconst 0, 1), (23, .ireturn, 1)]
set_option maxRecDepth 100000 in
theorem T_X11_isUsable : ∀ q ∈ I_X11_isUsable, decode cX11_isUsable q.1 = .ok (q.2.1, q.2.2) := by decide +kernel
def f_X11_isUsable_0 (x1 : Int32) (x2 : Int32) (σ : St) : Option (Int32) :=
  chk (inb ((21 + (100 * x1)) + x2) 761) (if (σ 102 ((21 + (100 * x1)) + x2).toNatClampNeg) = 1 then some 1 else some 0)
set_option maxHeartbeats 4000000 in
set_option maxRecDepth 100000 in
theorem w_X11_isUsable_0 (X : Cx g RX11 cX11_isUsable 3 (some .boolean) p s m args meth c) (x1 : Int32) (x2 : Int32) (σ : St) {w : Int32} (KR : ∀ (H : Heap) (locs : List Loc) (ls : Array Slot) (pc : Nat), Wd g s σ H locs → decode cX11_isUsable pc = .ok (.ireturn, 1) → W p l e (rmm 0 0) s m args below meth c H locs 0 0 Q (F0 m pc ls [.int (w)])) {H : Heap} {locs : List Loc} {ls : Array Slot} (Y : Wd g s σ H locs) (hl : lv_has ls 3 [(0, .ref (g.2.2 (101))), (1, .int (x1)), (2, .int (x2))]) (h : f_X11_isUsable_0 x1 x2 σ = some w) : W p l e (rmm 0 0) s m args below meth c H locs 0 0 Q (F0 m 0 ls []) := by
  unfold f_X11_isUsable_0 at h
  refine lv_aload_n X.1 X.2.1 (dk T_X11_isUsable 0 rfl) rfl (lv_at hl 0 rfl) ?_
  refine gg X Y fl_X11_7 rfl rfl (dk T_X11_isUsable 1 rfl) ?_
  refine lv_bipush (v := 21) X.1 X.2.1 (dk T_X11_isUsable 2 rfl) bp_21 ?_
  refine lv_bipush (v := 100) X.1 X.2.1 (dk T_X11_isUsable 3 rfl) bp_100 ?_
  refine lv_iload_n X.1 X.2.1 (dk T_X11_isUsable 4 rfl) rfl (lv_at hl 1 rfl) ?_
  refine lv_imul X.1 X.2.1 (dk T_X11_isUsable 5 rfl) ?_
  refine lv_iadd X.1 X.2.1 (dk T_X11_isUsable 6 rfl) ?_
  refine lv_iload_n X.1 X.2.1 (dk T_X11_isUsable 7 rfl) rfl (lv_at hl 2 rfl) ?_
  refine lv_iadd X.1 X.2.1 (dk T_X11_isUsable 8 rfl) ?_
  obtain ⟨g1, h⟩ := gd h
  refine gil X Y rfl (inp g1) (dk T_X11_isUsable 9 rfl) ?_
  refine lv_iconst (v := 1) X.1 X.2.1 (dk T_X11_isUsable 10 rfl) ic_1 ?_
  refine lv_icmp_ne (tgt := 22) X.1 X.2.1 (dk T_X11_isUsable 11 rfl) rfl (fun c2 => ?_) (fun c2 => ?_)
  · replace h := ineg c2 h
    refine lv_iconst (v := 0) X.1 X.2.1 (dk T_X11_isUsable 14 rfl) ic_0 ?_
    obtain rfl := Option.some.inj h
    exact KR _ _ _ _ Y (dk T_X11_isUsable 15 rfl)
  · replace h := ipos c2 h
    refine lv_iconst (v := 1) X.1 X.2.1 (dk T_X11_isUsable 12 rfl) ic_1 ?_
    refine lv_goto (tgt := 23) X.1 X.2.1 (dk T_X11_isUsable 13 rfl) rfl ?_
    obtain rfl := Option.some.inj h
    exact KR _ _ _ _ Y (dk T_X11_isUsable 15 rfl)
def f_X11_isUsable (x1 : Int32) (x2 : Int32) (σ : St) : Option (Int32) := bz (f_X11_isUsable_0 x1 x2 σ)
set_option maxHeartbeats 4000000 in
set_option maxRecDepth 100000 in
theorem c_X11_isUsable {l : Launch} {g : Geo} (x1 : Int32) (x2 : Int32) (σ : St) {w : Int32} (h : f_X11_isUsable x1 x2 σ = some w) : CtI l yX11_isUsable cX11_isUsable 3 (some .boolean) (rmm 0 0) g [.ref (g.2.2 (101)), .int (x1), .int (x2)] σ w σ := by
  obtain ⟨h, hz⟩ := bz_s h
  exact enI .boolean (by decide) rfl (bz_n hz) (Nat.le_of_ble_eq_true rfl) (fun p e s m args below meth c Q X Y ls hl KR => w_X11_isUsable_0 X x1 x2 σ KR Y hl h)
def I_X11_isFree : List (Nat × Instr × Nat) := [(0, .aload_n 0, 1), (1, .iload_n 1, 1), (2, .iload_n 2, 1), (3, .invokevirtual 142, 3), (6, .ifCond .eq 17, 3), (9, .aload_n 0, 1), (10, .getfield 37, 3), (13, .iload_n 2, 1), (14, .iaload, 1), (15, .iconst (-1), 1), (16, .if_icmp .ne 7, 3), (19, .iconst 1, 1), (20, .goto 4, 3), (23, .iconst 0, 1), (24, .ireturn, 1)]
set_option maxRecDepth 100000 in
theorem T_X11_isFree : ∀ q ∈ I_X11_isFree, decode cX11_isFree q.1 = .ok (q.2.1, q.2.2) := by decide +kernel
def f_X11_isFree_0 (x1 : Int32) (x2 : Int32) (σ : St) : Option (Int32) :=
  (f_X11_isUsable x1 x2 σ).bind fun q1 => if q1 = 0 then some 0 else chk (inb x2 100) (if (σ 111 x2.toNatClampNeg) = (-1) then some 1 else some 0)
set_option maxHeartbeats 4000000 in
set_option maxRecDepth 100000 in
theorem w_X11_isFree_0 (X : Cx g RX11 cX11_isFree 3 (some .boolean) p s m args meth c) (x1 : Int32) (x2 : Int32) (σ : St) {w : Int32} (KR : ∀ (H : Heap) (locs : List Loc) (ls : Array Slot) (pc : Nat), Wd g s σ H locs → decode cX11_isFree pc = .ok (.ireturn, 1) → W p l e (rmm 1 22) s m args below meth c H locs 0 0 Q (F0 m pc ls [.int (w)])) {H : Heap} {locs : List Loc} {ls : Array Slot} (Y : Wd g s σ H locs) (hl : lv_has ls 3 [(0, .ref (g.2.2 (101))), (1, .int (x1)), (2, .int (x2))]) (h : f_X11_isFree_0 x1 x2 σ = some w) : W p l e (rmm 1 22) s m args below meth c H locs 0 0 Q (F0 m 0 ls []) := by
  unfold f_X11_isFree_0 at h
  refine lv_aload_n X.1 X.2.1 (dk T_X11_isFree 0 rfl) rfl (lv_at hl 0 rfl) ?_
  refine lv_iload_n X.1 X.2.1 (dk T_X11_isFree 1 rfl) rfl (lv_at hl 1 rfl) ?_
  refine lv_iload_n X.1 X.2.1 (dk T_X11_isFree 2 rfl) rfl (lv_at hl 2 rfl) ?_
  obtain ⟨q1, hq1, h⟩ := bs h
  refine gvI (rest := []) X Y (c_X11_isUsable x1 x2 σ hq1) cb_X11_142 rfl hl.1 rfl rfl (Nat.le_of_ble_eq_true rfl) ⟨Nat.le_of_ble_eq_true rfl, Nat.le_of_ble_eq_true rfl⟩ (dk T_X11_isFree 3 rfl) (fun H locs Y => ?_)
  refine lv_if_eq (tgt := 23) X.1 X.2.1 (dk T_X11_isFree 4 rfl) rfl (fun c2 => ?_) (fun c2 => ?_)
  · replace h := ipos c2 h
    refine lv_iconst (v := 0) X.1 X.2.1 (dk T_X11_isFree 13 rfl) ic_0 ?_
    obtain rfl := Option.some.inj h
    exact KR _ _ _ _ Y (dk T_X11_isFree 14 rfl)
  · replace h := ineg c2 h
    refine lv_aload_n X.1 X.2.1 (dk T_X11_isFree 5 rfl) rfl (lv_at hl 0 rfl) ?_
    refine gg X Y fl_X11_37 rfl rfl (dk T_X11_isFree 6 rfl) ?_
    refine lv_iload_n X.1 X.2.1 (dk T_X11_isFree 7 rfl) rfl (lv_at hl 2 rfl) ?_
    obtain ⟨g3, h⟩ := gd h
    refine gil X Y rfl (inp g3) (dk T_X11_isFree 8 rfl) ?_
    refine lv_iconst (v := (-1)) X.1 X.2.1 (dk T_X11_isFree 9 rfl) ic_m1 ?_
    refine lv_icmp_ne (tgt := 23) X.1 X.2.1 (dk T_X11_isFree 10 rfl) rfl (fun c4 => ?_) (fun c4 => ?_)
    · replace h := ineg c4 h
      refine lv_iconst (v := 0) X.1 X.2.1 (dk T_X11_isFree 13 rfl) ic_0 ?_
      obtain rfl := Option.some.inj h
      exact KR _ _ _ _ Y (dk T_X11_isFree 14 rfl)
    · replace h := ipos c4 h
      refine lv_iconst (v := 1) X.1 X.2.1 (dk T_X11_isFree 11 rfl) ic_1 ?_
      refine lv_goto (tgt := 24) X.1 X.2.1 (dk T_X11_isFree 12 rfl) rfl ?_
      obtain rfl := Option.some.inj h
      exact KR _ _ _ _ Y (dk T_X11_isFree 14 rfl)
def f_X11_isFree (x1 : Int32) (x2 : Int32) (σ : St) : Option (Int32) := bz (f_X11_isFree_0 x1 x2 σ)
set_option maxHeartbeats 4000000 in
set_option maxRecDepth 100000 in
theorem c_X11_isFree {l : Launch} {g : Geo} (x1 : Int32) (x2 : Int32) (σ : St) {w : Int32} (h : f_X11_isFree x1 x2 σ = some w) : CtI l yX11_isFree cX11_isFree 3 (some .boolean) (rmm 1 22) g [.ref (g.2.2 (101)), .int (x1), .int (x2)] σ w σ := by
  obtain ⟨h, hz⟩ := bz_s h
  exact enI .boolean (by decide) rfl (bz_n hz) (Nat.le_of_ble_eq_true rfl) (fun p e s m args below meth c Q X Y ls hl KR => w_X11_isFree_0 X x1 x2 σ KR Y hl h)
def I_X11_free : List (Nat × Instr × Nat) := [(0, .aload_n 0, 1), (1, .iload_n 1, 1), (2, .invokevirtual 145, 3), (5, .iconst 0, 1), (6, .istore_n 2, 1), (7, .iconst 0, 1), (8, .istore_n 3, 1), (9, .iload_n 3, 1), (10, .aload_n 0, 1), (11, .iload_n 1, 1), (12, .invokevirtual 149, 3), (15, .if_icmp .ge 26, 3), (18, .iload_n 2, 1), (19, .aload_n 0, 1), (20, .iload_n 1, 1), (21, .iload_n 3, 1), (22, .invokevirtual 152, 3), (25, .ifCond .eq 7, 3), (28, .iconst 1, 1), (29, .goto 4, 3), (32, .iconst 0, 1), (33, .iadd, 1), (34, .istore_n 2, 1), (35, .iinc 3 1, 3), (38, .goto (-29), 3), (41, .iload_n 2, 1), (42, .ireturn, 1)]
set_option maxRecDepth 100000 in
theorem T_X11_free : ∀ q ∈ I_X11_free, decode cX11_free q.1 = .ok (q.2.1, q.2.2) := by decide +kernel
def f_X11_free_j33 (x1 : Int32) (x3 : Int32) (s0 : Int32) (s1 : Int32) (σ : St) : Option ((Int32 × Int32) ⊕ (Int32)) :=
  some (.inl (s1 + s0, x3 + 1))
set_option maxHeartbeats 4000000 in
set_option maxRecDepth 100000 in
theorem w_X11_free_j33 (X : Cx g RX11 cX11_free 4 (some .int) p s m args meth c) (x1 : Int32) (x3 : Int32) (s0 : Int32) (s1 : Int32) (σ : St) {w : (Int32 × Int32) ⊕ (Int32)} (KB : ∀ (v0_ : Int32) (v1_ : Int32), w = .inl (v0_, v1_) → ∀ (H : Heap) (locs : List Loc) (ls : Array Slot), Wd g s σ H locs → lv_has ls 4 [(0, .ref (g.2.2 (101))), (1, .int (x1)), (2, .int (v0_)), (3, .int (v1_))] → W p l e (rmm 4 95) s m args below meth c H locs 0 0 Q (F0 m 9 ls [])) (KX0 : ∀ (v : Int32), w = .inr v → ∀ (H : Heap) (locs : List Loc) (ls : Array Slot), Wd g s σ H locs → lv_has ls 4 [(2, .int (v))] → W p l e (rmm 4 95) s m args below meth c H locs 0 0 Q (F0 m 41 ls [])) {H : Heap} {locs : List Loc} {ls : Array Slot} (Y : Wd g s σ H locs) (hl : lv_has ls 4 [(0, .ref (g.2.2 (101))), (1, .int (x1)), (3, .int (x3))]) (h : f_X11_free_j33 x1 x3 s0 s1 σ = some w) : W p l e (rmm 4 95) s m args below meth c H locs 0 0 Q (F0 m 33 ls [.int (s0), .int (s1)]) := by
  unfold f_X11_free_j33 at h
  refine lv_iadd X.1 X.2.1 (dk T_X11_free 21 rfl) ?_
  refine lv_istore_n (lv' := [(2, .int (s1 + s0)), (0, .ref (g.2.2 (101))), (1, .int (x1)), (3, .int (x3))]) X.1 X.2.1 (dk T_X11_free 22 rfl) rfl hl (Nat.le_of_ble_eq_true rfl) rfl (fun ls hl => ?_)
  refine lv_iinc (v := x3 + 1) (lv' := [(3, .int (x3 + 1)), (2, .int (s1 + s0)), (0, .ref (g.2.2 (101))), (1, .int (x1))]) X.1 X.2.1 (dk T_X11_free 23 rfl) hl (k := 3) rfl (icx ic_1) (Nat.le_of_ble_eq_true rfl) rfl (fun ls hl => ?_)
  refine lv_goto (tgt := 9) X.1 X.2.1 (dk T_X11_free 24 rfl) rfl ?_
  exact KB (s1 + s0) (x3 + 1) (Option.some.inj h).symm _ _ _ Y (lv_sub hl [2, 3, 1, 0] rfl)
def f_X11_free_l9 (x1 : Int32) (σ : St) (z : Int32 × Int32) : Option ((Int32 × Int32) ⊕ (Int32)) :=
  (f_X11_cells x1 σ).bind fun q2 => if q2 ≤ z.2 then some (.inr z.1) else (f_X11_isFree x1 z.2 σ).bind fun q4 => if q4 = 0 then f_X11_free_j33 x1 z.2 0 z.1 σ else f_X11_free_j33 x1 z.2 1 z.1 σ
set_option maxHeartbeats 4000000 in
set_option maxRecDepth 100000 in
theorem w_X11_free_l9 (X : Cx g RX11 cX11_free 4 (some .int) p s m args meth c) (x1 : Int32) (σ : St) {r : Int32} (KX0 : ∀ (v : Int32), r = v → ∀ (H : Heap) (locs : List Loc) (ls : Array Slot), Wd g s σ H locs → lv_has ls 4 [(2, .int (v))] → W p l e (rmm 4 95) s m args below meth c H locs 0 0 Q (F0 m 41 ls [])) : ∀ (n : Nat) (z : Int32 × Int32) {H : Heap} {locs : List Loc} {ls : Array Slot}, Wd g s σ H locs → lv_has ls 4 [(0, .ref (g.2.2 (101))), (1, .int (x1)), (2, .int (z.1)), (3, .int (z.2))] → lp (f_X11_free_l9 x1 σ) n z = some r → W p l e (rmm 4 95) s m args below meth c H locs 0 0 Q (F0 m 9 ls []) := by
  intro n
  induction n with
  | zero => intro z H locs ls Y hl h; cases h
  | succ n ih =>
    intro z H locs ls Y hl h
    obtain ⟨w, h, hw⟩ := lps h
    have KB : ∀ (v0_ : Int32) (v1_ : Int32), w = .inl (v0_, v1_) → ∀ (H : Heap) (locs : List Loc) (ls : Array Slot), Wd g s σ H locs → lv_has ls 4 [(0, .ref (g.2.2 (101))), (1, .int (x1)), (2, .int (v0_)), (3, .int (v1_))] → W p l e (rmm 4 95) s m args below meth c H locs 0 0 Q (F0 m 9 ls []) := fun v0_ v1_ e H locs ls Y hl => ih (v0_, v1_) Y hl (lpl hw e)
    have KX0 := fun (v : Int32) (e : w = .inr v) => KX0 v (lpr hw e)
    unfold f_X11_free_l9 at h
    refine lv_iload_n X.1 X.2.1 (dk T_X11_free 7 rfl) rfl (lv_at hl 3 rfl) ?_
    refine lv_aload_n X.1 X.2.1 (dk T_X11_free 8 rfl) rfl (lv_at hl 0 rfl) ?_
    refine lv_iload_n X.1 X.2.1 (dk T_X11_free 9 rfl) rfl (lv_at hl 1 rfl) ?_
    obtain ⟨q2, hq2, h⟩ := bs h
    refine gvI (rest := [.int (z.2)]) X Y (c_X11_cells x1 σ hq2) cb_X11_149 rfl hl.1 rfl rfl (Nat.le_of_ble_eq_true rfl) ⟨Nat.le_of_ble_eq_true rfl, Nat.le_of_ble_eq_true rfl⟩ (dk T_X11_free 10 rfl) (fun H locs Y => ?_)
    refine lv_icmp_ge (tgt := 41) X.1 X.2.1 (dk T_X11_free 11 rfl) rfl (fun c3 => ?_) (fun c3 => ?_)
    · replace h := ipos c3 h
      exact KX0 z.1 (Option.some.inj h).symm _ _ _ Y (lv_sub hl [2] rfl)
    · replace h := ineg c3 h
      refine lv_iload_n X.1 X.2.1 (dk T_X11_free 12 rfl) rfl (lv_at hl 2 rfl) ?_
      refine lv_aload_n X.1 X.2.1 (dk T_X11_free 13 rfl) rfl (lv_at hl 0 rfl) ?_
      refine lv_iload_n X.1 X.2.1 (dk T_X11_free 14 rfl) rfl (lv_at hl 1 rfl) ?_
      refine lv_iload_n X.1 X.2.1 (dk T_X11_free 15 rfl) rfl (lv_at hl 3 rfl) ?_
      obtain ⟨q4, hq4, h⟩ := bs h
      refine gvI (rest := [.int (z.1)]) X Y (c_X11_isFree x1 z.2 σ hq4) cb_X11_152 rfl hl.1 rfl rfl (Nat.le_of_ble_eq_true rfl) ⟨Nat.le_of_ble_eq_true rfl, Nat.le_of_ble_eq_true rfl⟩ (dk T_X11_free 16 rfl) (fun H locs Y => ?_)
      refine lv_if_eq (tgt := 32) X.1 X.2.1 (dk T_X11_free 17 rfl) rfl (fun c5 => ?_) (fun c5 => ?_)
      · replace h := ipos c5 h
        refine lv_iconst (v := 0) X.1 X.2.1 (dk T_X11_free 20 rfl) ic_0 ?_
        exact w_X11_free_j33 X x1 z.2 0 z.1 σ KB KX0 Y (lv_sub hl [0, 1, 3] rfl) h
      · replace h := ineg c5 h
        refine lv_iconst (v := 1) X.1 X.2.1 (dk T_X11_free 18 rfl) ic_1 ?_
        refine lv_goto (tgt := 33) X.1 X.2.1 (dk T_X11_free 19 rfl) rfl ?_
        exact w_X11_free_j33 X x1 z.2 1 z.1 σ KB KX0 Y (lv_sub hl [0, 1, 3] rfl) h
def f_X11_free_0 (x1 : Int32) (σ : St) : Option (Int32 × St) :=
  (f_X11_looks x1 σ).bind fun q1 => (lp (f_X11_free_l9 x1 q1) FU (0, 0)).bind fun q6 => some (q6, q1)
set_option maxHeartbeats 4000000 in
set_option maxRecDepth 100000 in
theorem w_X11_free_0 (X : Cx g RX11 cX11_free 4 (some .int) p s m args meth c) (x1 : Int32) (σ : St) {w : Int32 × St} (KR : ∀ (H : Heap) (locs : List Loc) (ls : Array Slot) (pc : Nat), Wd g s w.2 H locs → decode cX11_free pc = .ok (.ireturn, 1) → W p l e (rmm 4 95) s m args below meth c H locs 0 0 Q (F0 m pc ls [.int (w.1)])) {H : Heap} {locs : List Loc} {ls : Array Slot} (Y : Wd g s σ H locs) (hl : lv_has ls 4 [(0, .ref (g.2.2 (101))), (1, .int (x1))]) (h : f_X11_free_0 x1 σ = some w) : W p l e (rmm 4 95) s m args below meth c H locs 0 0 Q (F0 m 0 ls []) := by
  unfold f_X11_free_0 at h
  refine lv_aload_n X.1 X.2.1 (dk T_X11_free 0 rfl) rfl (lv_at hl 0 rfl) ?_
  refine lv_iload_n X.1 X.2.1 (dk T_X11_free 1 rfl) rfl (lv_at hl 1 rfl) ?_
  obtain ⟨q1, hq1, h⟩ := bs h
  refine gvV (rest := []) X Y (c_X11_looks x1 σ hq1) cb_X11_145 rfl hl.1 rfl rfl (Nat.le_of_ble_eq_true rfl) ⟨Nat.le_of_ble_eq_true rfl, Nat.le_of_ble_eq_true rfl⟩ (dk T_X11_free 2 rfl) (fun H locs Y => ?_)
  refine lv_iconst (v := 0) X.1 X.2.1 (dk T_X11_free 3 rfl) ic_0 ?_
  refine lv_istore_n (lv' := [(2, .int (0)), (0, .ref (g.2.2 (101))), (1, .int (x1))]) X.1 X.2.1 (dk T_X11_free 4 rfl) rfl hl (Nat.le_of_ble_eq_true rfl) rfl (fun ls hl => ?_)
  refine lv_iconst (v := 0) X.1 X.2.1 (dk T_X11_free 5 rfl) ic_0 ?_
  refine lv_istore_n (lv' := [(3, .int (0)), (2, .int (0)), (0, .ref (g.2.2 (101))), (1, .int (x1))]) X.1 X.2.1 (dk T_X11_free 6 rfl) rfl hl (Nat.le_of_ble_eq_true rfl) rfl (fun ls hl => ?_)
  obtain ⟨q6, hq6, h⟩ := bs h
  refine w_X11_free_l9 X x1 q1 (fun v e H locs ls Y hl => ?_) FU (0, 0) Y (lv_sub hl [2, 3, 1, 0] rfl) hq6
  · obtain rfl := e
    refine lv_iload_n X.1 X.2.1 (dk T_X11_free 25 rfl) rfl (lv_at hl 0 rfl) ?_
    obtain rfl := Option.some.inj h
    exact KR _ _ _ _ Y (dk T_X11_free 26 rfl)
def f_X11_free (x1 : Int32) (σ : St) : Option (Int32 × St) := f_X11_free_0 x1 σ
set_option maxHeartbeats 4000000 in
set_option maxRecDepth 100000 in
theorem c_X11_free {l : Launch} {g : Geo} (x1 : Int32) (σ : St) {w : Int32 × St} (h : f_X11_free x1 σ = some w) : CtI l yX11_free cX11_free 4 (some .int) (rmm 4 95) g [.ref (g.2.2 (101)), .int (x1)] σ w.1 w.2 := enI .int (by decide) rfl rfl (Nat.le_of_ble_eq_true rfl) (fun p e s m args below meth c Q X Y ls hl KR => w_X11_free_0 X x1 σ KR Y hl h)
def I_X11_spoil : List (Nat × Instr × Nat) := [(0, .aload_n 0, 1), (1, .iconst 0, 1), (2, .putfield 71, 3), (5, .aload_n 0, 1), (6, .iload_n 1, 1), (7, .invokevirtual 155, 3), (10, .ifCond .eq 18, 3), (13, .iload_n 2, 1), (14, .iconst 0, 1), (15, .aload_n 0, 1), (16, .iload_n 1, 1), (17, .invokevirtual 149, 3), (20, .iconst 1, 1), (21, .isub, 1), (22, .invokestatic 75, 3), (25, .ifCond .ne 9, 3), (28, .aload_n 0, 1), (29, .iconst 1, 1), (30, .invokevirtual 91, 3), (33, .ireturn, 1), (34, .aload_n 0, 1), (35, .iload_n 1, 1), (36, .invokevirtual 145, 3), (39, .aload_n 0, 1), (40, .iload_n 1, 1), (41, .iload_n 2, 1), (42, .invokevirtual 152, 3), (45, .ifCond .ne 9, 3), (48, .aload_n 0, 1), (49, .iconst 2, 1), (50, .invokevirtual 91, 3), (53, .ireturn, 1), (54, .aload_n 0, 1), (55, .invokevirtual 95, 3), (58, .aload_n 0, 1), (59, .getfield 7, 3), (62, .bipush 21, 2), (64, .bipush 100, 2), (66, .iload_n 1, 1), (67, .imul, 1), (68, .iadd, 1), (69, .iload_n 2, 1), (70, .iadd, 1), (71, .iconst 0, 1), (72, .iastore, 1), (73, .aload_n 0, 1), (74, .iload_n 1, 1), (75, .invokevirtual 159, 3), (78, .ireturn, 1)]
set_option maxRecDepth 100000 in
theorem T_X11_spoil : ∀ q ∈ I_X11_spoil, decode cX11_spoil q.1 = .ok (q.2.1, q.2.2) := by decide +kernel
def f_X11_spoil_j28 (σ : St) : Option (Int32 × St) :=
  (f_X11_fails 1 σ).bind fun q3 => some (q3.1, q3.2)
set_option maxHeartbeats 4000000 in
set_option maxRecDepth 100000 in
theorem w_X11_spoil_j28 (X : Cx g RX11 cX11_spoil 3 (some .int) p s m args meth c) (σ : St) {w : Int32 × St} (KR : ∀ (H : Heap) (locs : List Loc) (ls : Array Slot) (pc : Nat), Wd g s w.2 H locs → decode cX11_spoil pc = .ok (.ireturn, 1) → W p l e (rmm 5 118) s m args below meth c H locs 0 0 Q (F0 m pc ls [.int (w.1)])) {H : Heap} {locs : List Loc} {ls : Array Slot} (Y : Wd g s σ H locs) (hl : lv_has ls 3 [(0, .ref (g.2.2 (101)))]) (h : f_X11_spoil_j28 σ = some w) : W p l e (rmm 5 118) s m args below meth c H locs 0 0 Q (F0 m 28 ls []) := by
  unfold f_X11_spoil_j28 at h
  refine lv_aload_n X.1 X.2.1 (dk T_X11_spoil 16 rfl) rfl (lv_at hl 0 rfl) ?_
  refine lv_iconst (v := 1) X.1 X.2.1 (dk T_X11_spoil 17 rfl) ic_1 ?_
  obtain ⟨q3, hq3, h⟩ := bs h
  refine gvI (rest := []) X Y (c_X11_fails 1 σ hq3) cb_X11_91 rfl hl.1 rfl rfl (Nat.le_of_ble_eq_true rfl) ⟨Nat.le_of_ble_eq_true rfl, Nat.le_of_ble_eq_true rfl⟩ (dk T_X11_spoil 18 rfl) (fun H locs Y => ?_)
  obtain rfl := Option.some.inj h
  exact KR _ _ _ _ Y (dk T_X11_spoil 19 rfl)
def f_X11_spoil_0 (x1 : Int32) (x2 : Int32) (σ : St) : Option (Int32 × St) :=
  (f_X11_isSheet x1 (up σ 101 0 0)).bind fun q1 => if q1 = 0 then f_X11_spoil_j28 (up σ 101 0 0) else (f_X11_cells x1 (up σ 101 0 0)).bind fun q4 => (f_X11_in x2 0 (q4 - 1)).bind fun q5 => if q5 = 0 then f_X11_spoil_j28 (up σ 101 0 0) else (f_X11_looks x1 (up σ 101 0 0)).bind fun q7 => (f_X11_isFree x1 x2 q7).bind fun q8 => if q8 = 0 then (f_X11_fails 2 q7).bind fun q13 => some (q13.1, q13.2) else (f_X11_changes q7).bind fun q10 => chk (inb ((21 + (100 * x1)) + x2) 761) ((f_X11_free x1 (up q10 102 ((21 + (100 * x1)) + x2).toNatClampNeg 0)).bind fun q12 => some (q12.1, q12.2))
set_option maxHeartbeats 4000000 in
set_option maxRecDepth 100000 in
theorem w_X11_spoil_0 (X : Cx g RX11 cX11_spoil 3 (some .int) p s m args meth c) (x1 : Int32) (x2 : Int32) (σ : St) {w : Int32 × St} (KR : ∀ (H : Heap) (locs : List Loc) (ls : Array Slot) (pc : Nat), Wd g s w.2 H locs → decode cX11_spoil pc = .ok (.ireturn, 1) → W p l e (rmm 5 118) s m args below meth c H locs 0 0 Q (F0 m pc ls [.int (w.1)])) {H : Heap} {locs : List Loc} {ls : Array Slot} (Y : Wd g s σ H locs) (hl : lv_has ls 3 [(0, .ref (g.2.2 (101))), (1, .int (x1)), (2, .int (x2))]) (h : f_X11_spoil_0 x1 x2 σ = some w) : W p l e (rmm 5 118) s m args below meth c H locs 0 0 Q (F0 m 0 ls []) := by
  unfold f_X11_spoil_0 at h
  refine lv_aload_n X.1 X.2.1 (dk T_X11_spoil 0 rfl) rfl (lv_at hl 0 rfl) ?_
  refine lv_iconst (v := 0) X.1 X.2.1 (dk T_X11_spoil 1 rfl) ic_0 ?_
  refine gp X Y fp_X11_71 rfl (nar_int _) (dk T_X11_spoil 2 rfl) (fun H locs Y => ?_)
  refine lv_aload_n X.1 X.2.1 (dk T_X11_spoil 3 rfl) rfl (lv_at hl 0 rfl) ?_
  refine lv_iload_n X.1 X.2.1 (dk T_X11_spoil 4 rfl) rfl (lv_at hl 1 rfl) ?_
  obtain ⟨q1, hq1, h⟩ := bs h
  refine gvI (rest := []) X Y (c_X11_isSheet x1 (up σ 101 0 0) hq1) cb_X11_155 rfl hl.1 rfl rfl (Nat.le_of_ble_eq_true rfl) ⟨Nat.le_of_ble_eq_true rfl, Nat.le_of_ble_eq_true rfl⟩ (dk T_X11_spoil 5 rfl) (fun H locs Y => ?_)
  refine lv_if_eq (tgt := 28) X.1 X.2.1 (dk T_X11_spoil 6 rfl) rfl (fun c2 => ?_) (fun c2 => ?_)
  · replace h := ipos c2 h
    exact w_X11_spoil_j28 X (up σ 101 0 0) KR Y (lv_sub hl [0] rfl) h
  · replace h := ineg c2 h
    refine lv_iload_n X.1 X.2.1 (dk T_X11_spoil 7 rfl) rfl (lv_at hl 2 rfl) ?_
    refine lv_iconst (v := 0) X.1 X.2.1 (dk T_X11_spoil 8 rfl) ic_0 ?_
    refine lv_aload_n X.1 X.2.1 (dk T_X11_spoil 9 rfl) rfl (lv_at hl 0 rfl) ?_
    refine lv_iload_n X.1 X.2.1 (dk T_X11_spoil 10 rfl) rfl (lv_at hl 1 rfl) ?_
    obtain ⟨q4, hq4, h⟩ := bs h
    refine gvI (rest := [.int (0), .int (x2)]) X Y (c_X11_cells x1 (up σ 101 0 0) hq4) cb_X11_149 rfl hl.1 rfl rfl (Nat.le_of_ble_eq_true rfl) ⟨Nat.le_of_ble_eq_true rfl, Nat.le_of_ble_eq_true rfl⟩ (dk T_X11_spoil 11 rfl) (fun H locs Y => ?_)
    refine lv_iconst (v := 1) X.1 X.2.1 (dk T_X11_spoil 12 rfl) ic_1 ?_
    refine lv_isub X.1 X.2.1 (dk T_X11_spoil 13 rfl) ?_
    obtain ⟨q5, hq5, h⟩ := bs h
    refine gsI (rest := []) X Y (c_X11_in x2 0 (q4 - 1) (up σ 101 0 0) hq5) cb_X11_75 hl.1 rfl rfl (Nat.le_of_ble_eq_true rfl) ⟨Nat.le_of_ble_eq_true rfl, Nat.le_of_ble_eq_true rfl⟩ (dk T_X11_spoil 14 rfl) (fun H locs Y => ?_)
    refine lv_if_ne (tgt := 34) X.1 X.2.1 (dk T_X11_spoil 15 rfl) rfl (fun c6 => ?_) (fun c6 => ?_)
    · replace h := ineg c6 h
      refine lv_aload_n X.1 X.2.1 (dk T_X11_spoil 20 rfl) rfl (lv_at hl 0 rfl) ?_
      refine lv_iload_n X.1 X.2.1 (dk T_X11_spoil 21 rfl) rfl (lv_at hl 1 rfl) ?_
      obtain ⟨q7, hq7, h⟩ := bs h
      refine gvV (rest := []) X Y (c_X11_looks x1 (up σ 101 0 0) hq7) cb_X11_145 rfl hl.1 rfl rfl (Nat.le_of_ble_eq_true rfl) ⟨Nat.le_of_ble_eq_true rfl, Nat.le_of_ble_eq_true rfl⟩ (dk T_X11_spoil 22 rfl) (fun H locs Y => ?_)
      refine lv_aload_n X.1 X.2.1 (dk T_X11_spoil 23 rfl) rfl (lv_at hl 0 rfl) ?_
      refine lv_iload_n X.1 X.2.1 (dk T_X11_spoil 24 rfl) rfl (lv_at hl 1 rfl) ?_
      refine lv_iload_n X.1 X.2.1 (dk T_X11_spoil 25 rfl) rfl (lv_at hl 2 rfl) ?_
      obtain ⟨q8, hq8, h⟩ := bs h
      refine gvI (rest := []) X Y (c_X11_isFree x1 x2 q7 hq8) cb_X11_152 rfl hl.1 rfl rfl (Nat.le_of_ble_eq_true rfl) ⟨Nat.le_of_ble_eq_true rfl, Nat.le_of_ble_eq_true rfl⟩ (dk T_X11_spoil 26 rfl) (fun H locs Y => ?_)
      refine lv_if_ne (tgt := 54) X.1 X.2.1 (dk T_X11_spoil 27 rfl) rfl (fun c9 => ?_) (fun c9 => ?_)
      · replace h := ineg c9 h
        refine lv_aload_n X.1 X.2.1 (dk T_X11_spoil 32 rfl) rfl (lv_at hl 0 rfl) ?_
        obtain ⟨q10, hq10, h⟩ := bs h
        refine gvV (rest := []) X Y (c_X11_changes q7 hq10) cb_X11_95 rfl hl.1 rfl rfl (Nat.le_of_ble_eq_true rfl) ⟨Nat.le_of_ble_eq_true rfl, Nat.le_of_ble_eq_true rfl⟩ (dk T_X11_spoil 33 rfl) (fun H locs Y => ?_)
        refine lv_aload_n X.1 X.2.1 (dk T_X11_spoil 34 rfl) rfl (lv_at hl 0 rfl) ?_
        refine gg X Y fl_X11_7 rfl rfl (dk T_X11_spoil 35 rfl) ?_
        refine lv_bipush (v := 21) X.1 X.2.1 (dk T_X11_spoil 36 rfl) bp_21 ?_
        refine lv_bipush (v := 100) X.1 X.2.1 (dk T_X11_spoil 37 rfl) bp_100 ?_
        refine lv_iload_n X.1 X.2.1 (dk T_X11_spoil 38 rfl) rfl (lv_at hl 1 rfl) ?_
        refine lv_imul X.1 X.2.1 (dk T_X11_spoil 39 rfl) ?_
        refine lv_iadd X.1 X.2.1 (dk T_X11_spoil 40 rfl) ?_
        refine lv_iload_n X.1 X.2.1 (dk T_X11_spoil 41 rfl) rfl (lv_at hl 2 rfl) ?_
        refine lv_iadd X.1 X.2.1 (dk T_X11_spoil 42 rfl) ?_
        refine lv_iconst (v := 0) X.1 X.2.1 (dk T_X11_spoil 43 rfl) ic_0 ?_
        obtain ⟨g11, h⟩ := gd h
        refine gis X Y rfl (inp g11) (dk T_X11_spoil 44 rfl) (fun H locs Y => ?_)
        refine lv_aload_n X.1 X.2.1 (dk T_X11_spoil 45 rfl) rfl (lv_at hl 0 rfl) ?_
        refine lv_iload_n X.1 X.2.1 (dk T_X11_spoil 46 rfl) rfl (lv_at hl 1 rfl) ?_
        obtain ⟨q12, hq12, h⟩ := bs h
        refine gvI (rest := []) X Y (c_X11_free x1 (up q10 102 ((21 + (100 * x1)) + x2).toNatClampNeg 0) hq12) cb_X11_159 rfl hl.1 rfl rfl (Nat.le_of_ble_eq_true rfl) ⟨Nat.le_of_ble_eq_true rfl, Nat.le_of_ble_eq_true rfl⟩ (dk T_X11_spoil 47 rfl) (fun H locs Y => ?_)
        obtain rfl := Option.some.inj h
        exact KR _ _ _ _ Y (dk T_X11_spoil 48 rfl)
      · replace h := ipos c9 h
        refine lv_aload_n X.1 X.2.1 (dk T_X11_spoil 28 rfl) rfl (lv_at hl 0 rfl) ?_
        refine lv_iconst (v := 2) X.1 X.2.1 (dk T_X11_spoil 29 rfl) ic_2 ?_
        obtain ⟨q13, hq13, h⟩ := bs h
        refine gvI (rest := []) X Y (c_X11_fails 2 q7 hq13) cb_X11_91 rfl hl.1 rfl rfl (Nat.le_of_ble_eq_true rfl) ⟨Nat.le_of_ble_eq_true rfl, Nat.le_of_ble_eq_true rfl⟩ (dk T_X11_spoil 30 rfl) (fun H locs Y => ?_)
        obtain rfl := Option.some.inj h
        exact KR _ _ _ _ Y (dk T_X11_spoil 31 rfl)
    · replace h := ipos c6 h
      exact w_X11_spoil_j28 X (up σ 101 0 0) KR Y (lv_sub hl [0] rfl) h
def f_X11_spoil (x1 : Int32) (x2 : Int32) (σ : St) : Option (Int32 × St) := f_X11_spoil_0 x1 x2 σ
set_option maxHeartbeats 4000000 in
set_option maxRecDepth 100000 in
theorem c_X11_spoil {l : Launch} {g : Geo} (x1 : Int32) (x2 : Int32) (σ : St) {w : Int32 × St} (h : f_X11_spoil x1 x2 σ = some w) : CtI l yX11_spoil cX11_spoil 3 (some .int) (rmm 5 118) g [.ref (g.2.2 (101)), .int (x1), .int (x2)] σ w.1 w.2 := enI .int (by decide) rfl rfl (Nat.le_of_ble_eq_true rfl) (fun p e s m args below meth c Q X Y ls hl KR => w_X11_spoil_0 X x1 x2 σ KR Y hl h)
def I_X11_isBesideGroup : List (Nat × Instr × Nat) := [(0, .aload_n 0, 1), (1, .getfield 7, 3), (4, .iconst 3, 1), (5, .iload_n 1, 1), (6, .iadd, 1), (7, .iaload, 1), (8, .istore 4, 2), (10, .iload_n 2, 1), (11, .iload 4, 2), (13, .irem, 1), (14, .ifCond .le 15, 3), (17, .aload_n 0, 1), (18, .getfield 40, 3), (21, .iload_n 2, 1), (22, .iconst 1, 1), (23, .isub, 1), (24, .iaload, 1), (25, .iload_n 3, 1), (26, .if_icmp .eq 24, 3), (29, .iload_n 2, 1), (30, .iconst 1, 1), (31, .iadd, 1), (32, .iload 4, 2), (34, .irem, 1), (35, .ifCond .le 19, 3), (38, .aload_n 0, 1), (39, .getfield 40, 3), (42, .iload_n 2, 1), (43, .iconst 1, 1), (44, .iadd, 1), (45, .iaload, 1), (46, .iload_n 3, 1), (47, .if_icmp .ne 7, 3), (50, .iconst 1, 1), (51, .goto 4, 3), (54, .iconst 0, 1), (55, .istore 5, 2), (57, .iload 5, 2), (59, .ifCond .ne 47, 3), (62, .iload_n 2, 1), (63, .iload 4, 2), (65, .if_icmp .lt 16, 3), (68, .aload_n 0, 1), (69, .getfield 40, 3), (72, .iload_n 2, 1), (73, .iload 4, 2), (75, .isub, 1), (76, .iaload, 1), (77, .iload_n 3, 1), (78, .if_icmp .eq 28, 3), (81, .iload_n 2, 1), (82, .iload 4, 2), (84, .iadd, 1), (85, .aload_n 0, 1), (86, .iload_n 1, 1), (87, .invokevirtual 149, 3), (90, .if_icmp .ge 20, 3), (93, .aload_n 0, 1), (94, .getfield 40, 3), (97, .iload_n 2, 1), (98, .iload 4, 2), (100, .iadd, 1), (101, .iaload, 1), (102, .iload_n 3, 1), (103, .if_icmp .ne 7, 3), (106, .iconst 1, 1), (107, .goto 4, 3), (110, .iconst 0, 1), (111, .ireturn, 1)]
set_option maxRecDepth 100000 in
theorem T_X11_isBesideGroup : ∀ q ∈ I_X11_isBesideGroup, decode cX11_isBesideGroup q.1 = .ok (q.2.1, q.2.2) := by decide +kernel
def f_X11_isBesideGroup_j106 (σ : St) : Option (Int32) :=
  some 1
set_option maxHeartbeats 4000000 in
set_option maxRecDepth 100000 in
theorem w_X11_isBesideGroup_j106 (X : Cx g RX11 cX11_isBesideGroup 6 (some .boolean) p s m args meth c) (σ : St) {w : Int32} (KR : ∀ (H : Heap) (locs : List Loc) (ls : Array Slot) (pc : Nat), Wd g s σ H locs → decode cX11_isBesideGroup pc = .ok (.ireturn, 1) → W p l e (rmm 1 21) s m args below meth c H locs 0 0 Q (F0 m pc ls [.int (w)])) {H : Heap} {locs : List Loc} {ls : Array Slot} (Y : Wd g s σ H locs) (hl : lv_has ls 6 []) (h : f_X11_isBesideGroup_j106 σ = some w) : W p l e (rmm 1 21) s m args below meth c H locs 0 0 Q (F0 m 106 ls []) := by
  unfold f_X11_isBesideGroup_j106 at h
  refine lv_iconst (v := 1) X.1 X.2.1 (dk T_X11_isBesideGroup 65 rfl) ic_1 ?_
  refine lv_goto (tgt := 111) X.1 X.2.1 (dk T_X11_isBesideGroup 66 rfl) rfl ?_
  obtain rfl := Option.some.inj h
  exact KR _ _ _ _ Y (dk T_X11_isBesideGroup 68 rfl)
def f_X11_isBesideGroup_j81 (x1 : Int32) (x2 : Int32) (x3 : Int32) (x4 : Int32) (σ : St) : Option (Int32) :=
  (f_X11_cells x1 σ).bind fun q8 => if q8 ≤ (x2 + x4) then some 0 else chk (inb (x2 + x4) 100) (if (σ 112 (x2 + x4).toNatClampNeg) = x3 then f_X11_isBesideGroup_j106 σ else some 0)
set_option maxHeartbeats 4000000 in
set_option maxRecDepth 100000 in
theorem w_X11_isBesideGroup_j81 (X : Cx g RX11 cX11_isBesideGroup 6 (some .boolean) p s m args meth c) (x1 : Int32) (x2 : Int32) (x3 : Int32) (x4 : Int32) (σ : St) {w : Int32} (KR : ∀ (H : Heap) (locs : List Loc) (ls : Array Slot) (pc : Nat), Wd g s σ H locs → decode cX11_isBesideGroup pc = .ok (.ireturn, 1) → W p l e (rmm 1 21) s m args below meth c H locs 0 0 Q (F0 m pc ls [.int (w)])) {H : Heap} {locs : List Loc} {ls : Array Slot} (Y : Wd g s σ H locs) (hl : lv_has ls 6 [(0, .ref (g.2.2 (101))), (1, .int (x1)), (2, .int (x2)), (3, .int (x3)), (4, .int (x4))]) (h : f_X11_isBesideGroup_j81 x1 x2 x3 x4 σ = some w) : W p l e (rmm 1 21) s m args below meth c H locs 0 0 Q (F0 m 81 ls []) := by
  unfold f_X11_isBesideGroup_j81 at h
  refine lv_iload_n X.1 X.2.1 (dk T_X11_isBesideGroup 50 rfl) rfl (lv_at hl 2 rfl) ?_
  refine lv_iload X.1 X.2.1 (dk T_X11_isBesideGroup 51 rfl) (lv_at hl 4 rfl) ?_
  refine lv_iadd X.1 X.2.1 (dk T_X11_isBesideGroup 52 rfl) ?_
  refine lv_aload_n X.1 X.2.1 (dk T_X11_isBesideGroup 53 rfl) rfl (lv_at hl 0 rfl) ?_
  refine lv_iload_n X.1 X.2.1 (dk T_X11_isBesideGroup 54 rfl) rfl (lv_at hl 1 rfl) ?_
  obtain ⟨q8, hq8, h⟩ := bs h
  refine gvI (rest := [.int (x2 + x4)]) X Y (c_X11_cells x1 σ hq8) cb_X11_149 rfl hl.1 rfl rfl (Nat.le_of_ble_eq_true rfl) ⟨Nat.le_of_ble_eq_true rfl, Nat.le_of_ble_eq_true rfl⟩ (dk T_X11_isBesideGroup 55 rfl) (fun H locs Y => ?_)
  refine lv_icmp_ge (tgt := 110) X.1 X.2.1 (dk T_X11_isBesideGroup 56 rfl) rfl (fun c9 => ?_) (fun c9 => ?_)
  · replace h := ipos c9 h
    refine lv_iconst (v := 0) X.1 X.2.1 (dk T_X11_isBesideGroup 67 rfl) ic_0 ?_
    obtain rfl := Option.some.inj h
    exact KR _ _ _ _ Y (dk T_X11_isBesideGroup 68 rfl)
  · replace h := ineg c9 h
    refine lv_aload_n X.1 X.2.1 (dk T_X11_isBesideGroup 57 rfl) rfl (lv_at hl 0 rfl) ?_
    refine gg X Y fl_X11_40 rfl rfl (dk T_X11_isBesideGroup 58 rfl) ?_
    refine lv_iload_n X.1 X.2.1 (dk T_X11_isBesideGroup 59 rfl) rfl (lv_at hl 2 rfl) ?_
    refine lv_iload X.1 X.2.1 (dk T_X11_isBesideGroup 60 rfl) (lv_at hl 4 rfl) ?_
    refine lv_iadd X.1 X.2.1 (dk T_X11_isBesideGroup 61 rfl) ?_
    obtain ⟨g10, h⟩ := gd h
    refine gil X Y rfl (inp g10) (dk T_X11_isBesideGroup 62 rfl) ?_
    refine lv_iload_n X.1 X.2.1 (dk T_X11_isBesideGroup 63 rfl) rfl (lv_at hl 3 rfl) ?_
    refine lv_icmp_ne (tgt := 110) X.1 X.2.1 (dk T_X11_isBesideGroup 64 rfl) rfl (fun c11 => ?_) (fun c11 => ?_)
    · replace h := ineg c11 h
      refine lv_iconst (v := 0) X.1 X.2.1 (dk T_X11_isBesideGroup 67 rfl) ic_0 ?_
      obtain rfl := Option.some.inj h
      exact KR _ _ _ _ Y (dk T_X11_isBesideGroup 68 rfl)
    · replace h := ipos c11 h
      exact w_X11_isBesideGroup_j106 X σ KR Y (lv_sub hl [] rfl) h
def f_X11_isBesideGroup_j55 (x1 : Int32) (x2 : Int32) (x3 : Int32) (x4 : Int32) (s0 : Int32) (σ : St) : Option (Int32) :=
  if s0 = 0 then if x2 < x4 then f_X11_isBesideGroup_j81 x1 x2 x3 x4 σ else chk (inb (x2 - x4) 100) (if (σ 112 (x2 - x4).toNatClampNeg) = x3 then f_X11_isBesideGroup_j106 σ else f_X11_isBesideGroup_j81 x1 x2 x3 x4 σ) else f_X11_isBesideGroup_j106 σ
set_option maxHeartbeats 4000000 in
set_option maxRecDepth 100000 in
theorem w_X11_isBesideGroup_j55 (X : Cx g RX11 cX11_isBesideGroup 6 (some .boolean) p s m args meth c) (x1 : Int32) (x2 : Int32) (x3 : Int32) (x4 : Int32) (s0 : Int32) (σ : St) {w : Int32} (KR : ∀ (H : Heap) (locs : List Loc) (ls : Array Slot) (pc : Nat), Wd g s σ H locs → decode cX11_isBesideGroup pc = .ok (.ireturn, 1) → W p l e (rmm 1 21) s m args below meth c H locs 0 0 Q (F0 m pc ls [.int (w)])) {H : Heap} {locs : List Loc} {ls : Array Slot} (Y : Wd g s σ H locs) (hl : lv_has ls 6 [(0, .ref (g.2.2 (101))), (1, .int (x1)), (2, .int (x2)), (3, .int (x3)), (4, .int (x4))]) (h : f_X11_isBesideGroup_j55 x1 x2 x3 x4 s0 σ = some w) : W p l e (rmm 1 21) s m args below meth c H locs 0 0 Q (F0 m 55 ls [.int (s0)]) := by
  unfold f_X11_isBesideGroup_j55 at h
  refine lv_istore (lv' := [(5, .int (s0)), (0, .ref (g.2.2 (101))), (1, .int (x1)), (2, .int (x2)), (3, .int (x3)), (4, .int (x4))]) X.1 X.2.1 (dk T_X11_isBesideGroup 36 rfl) hl (Nat.le_of_ble_eq_true rfl) rfl (fun ls hl => ?_)
  refine lv_iload X.1 X.2.1 (dk T_X11_isBesideGroup 37 rfl) (lv_at hl 0 rfl) ?_
  refine lv_if_ne (tgt := 106) X.1 X.2.1 (dk T_X11_isBesideGroup 38 rfl) rfl (fun c6 => ?_) (fun c6 => ?_)
  · replace h := ineg c6 h
    exact w_X11_isBesideGroup_j106 X σ KR Y (lv_sub hl [] rfl) h
  · replace h := ipos c6 h
    refine lv_iload_n X.1 X.2.1 (dk T_X11_isBesideGroup 39 rfl) rfl (lv_at hl 3 rfl) ?_
    refine lv_iload X.1 X.2.1 (dk T_X11_isBesideGroup 40 rfl) (lv_at hl 5 rfl) ?_
    refine lv_icmp_lt (tgt := 81) X.1 X.2.1 (dk T_X11_isBesideGroup 41 rfl) rfl (fun c7 => ?_) (fun c7 => ?_)
    · replace h := ipos c7 h
      exact w_X11_isBesideGroup_j81 X x1 x2 x3 x4 σ KR Y (lv_sub hl [1, 2, 3, 4, 5] rfl) h
    · replace h := ineg c7 h
      refine lv_aload_n X.1 X.2.1 (dk T_X11_isBesideGroup 42 rfl) rfl (lv_at hl 1 rfl) ?_
      refine gg X Y fl_X11_40 rfl rfl (dk T_X11_isBesideGroup 43 rfl) ?_
      refine lv_iload_n X.1 X.2.1 (dk T_X11_isBesideGroup 44 rfl) rfl (lv_at hl 3 rfl) ?_
      refine lv_iload X.1 X.2.1 (dk T_X11_isBesideGroup 45 rfl) (lv_at hl 5 rfl) ?_
      refine lv_isub X.1 X.2.1 (dk T_X11_isBesideGroup 46 rfl) ?_
      obtain ⟨g12, h⟩ := gd h
      refine gil X Y rfl (inp g12) (dk T_X11_isBesideGroup 47 rfl) ?_
      refine lv_iload_n X.1 X.2.1 (dk T_X11_isBesideGroup 48 rfl) rfl (lv_at hl 4 rfl) ?_
      refine lv_icmp_eq (tgt := 106) X.1 X.2.1 (dk T_X11_isBesideGroup 49 rfl) rfl (fun c13 => ?_) (fun c13 => ?_)
      · replace h := ipos c13 h
        exact w_X11_isBesideGroup_j106 X σ KR Y (lv_sub hl [] rfl) h
      · replace h := ineg c13 h
        exact w_X11_isBesideGroup_j81 X x1 x2 x3 x4 σ KR Y (lv_sub hl [1, 2, 3, 4, 5] rfl) h
def f_X11_isBesideGroup_j54 (x1 : Int32) (x2 : Int32) (x3 : Int32) (x4 : Int32) (σ : St) : Option (Int32) :=
  f_X11_isBesideGroup_j55 x1 x2 x3 x4 0 σ
set_option maxHeartbeats 4000000 in
set_option maxRecDepth 100000 in
theorem w_X11_isBesideGroup_j54 (X : Cx g RX11 cX11_isBesideGroup 6 (some .boolean) p s m args meth c) (x1 : Int32) (x2 : Int32) (x3 : Int32) (x4 : Int32) (σ : St) {w : Int32} (KR : ∀ (H : Heap) (locs : List Loc) (ls : Array Slot) (pc : Nat), Wd g s σ H locs → decode cX11_isBesideGroup pc = .ok (.ireturn, 1) → W p l e (rmm 1 21) s m args below meth c H locs 0 0 Q (F0 m pc ls [.int (w)])) {H : Heap} {locs : List Loc} {ls : Array Slot} (Y : Wd g s σ H locs) (hl : lv_has ls 6 [(0, .ref (g.2.2 (101))), (1, .int (x1)), (2, .int (x2)), (3, .int (x3)), (4, .int (x4))]) (h : f_X11_isBesideGroup_j54 x1 x2 x3 x4 σ = some w) : W p l e (rmm 1 21) s m args below meth c H locs 0 0 Q (F0 m 54 ls []) := by
  unfold f_X11_isBesideGroup_j54 at h
  refine lv_iconst (v := 0) X.1 X.2.1 (dk T_X11_isBesideGroup 35 rfl) ic_0 ?_
  exact w_X11_isBesideGroup_j55 X x1 x2 x3 x4 0 σ KR Y (lv_sub hl [0, 1, 2, 3, 4] rfl) h
def f_X11_isBesideGroup_j50 (x1 : Int32) (x2 : Int32) (x3 : Int32) (x4 : Int32) (σ : St) : Option (Int32) :=
  f_X11_isBesideGroup_j55 x1 x2 x3 x4 1 σ
set_option maxHeartbeats 4000000 in
set_option maxRecDepth 100000 in
theorem w_X11_isBesideGroup_j50 (X : Cx g RX11 cX11_isBesideGroup 6 (some .boolean) p s m args meth c) (x1 : Int32) (x2 : Int32) (x3 : Int32) (x4 : Int32) (σ : St) {w : Int32} (KR : ∀ (H : Heap) (locs : List Loc) (ls : Array Slot) (pc : Nat), Wd g s σ H locs → decode cX11_isBesideGroup pc = .ok (.ireturn, 1) → W p l e (rmm 1 21) s m args below meth c H locs 0 0 Q (F0 m pc ls [.int (w)])) {H : Heap} {locs : List Loc} {ls : Array Slot} (Y : Wd g s σ H locs) (hl : lv_has ls 6 [(0, .ref (g.2.2 (101))), (1, .int (x1)), (2, .int (x2)), (3, .int (x3)), (4, .int (x4))]) (h : f_X11_isBesideGroup_j50 x1 x2 x3 x4 σ = some w) : W p l e (rmm 1 21) s m args below meth c H locs 0 0 Q (F0 m 50 ls []) := by
  unfold f_X11_isBesideGroup_j50 at h
  refine lv_iconst (v := 1) X.1 X.2.1 (dk T_X11_isBesideGroup 33 rfl) ic_1 ?_
  refine lv_goto (tgt := 55) X.1 X.2.1 (dk T_X11_isBesideGroup 34 rfl) rfl ?_
  exact w_X11_isBesideGroup_j55 X x1 x2 x3 x4 1 σ KR Y (lv_sub hl [0, 1, 2, 3, 4] rfl) h
def f_X11_isBesideGroup_j29 (x1 : Int32) (x2 : Int32) (x3 : Int32) (x4 : Int32) (σ : St) : Option (Int32) :=
  chk (nz x4) (if ((x2 + 1) - (x2 + 1) / x4 * x4) ≤ 0 then f_X11_isBesideGroup_j54 x1 x2 x3 x4 σ else chk (inb (x2 + 1) 100) (if (σ 112 (x2 + 1).toNatClampNeg) = x3 then f_X11_isBesideGroup_j50 x1 x2 x3 x4 σ else f_X11_isBesideGroup_j54 x1 x2 x3 x4 σ))
set_option maxHeartbeats 4000000 in
set_option maxRecDepth 100000 in
theorem w_X11_isBesideGroup_j29 (X : Cx g RX11 cX11_isBesideGroup 6 (some .boolean) p s m args meth c) (x1 : Int32) (x2 : Int32) (x3 : Int32) (x4 : Int32) (σ : St) {w : Int32} (KR : ∀ (H : Heap) (locs : List Loc) (ls : Array Slot) (pc : Nat), Wd g s σ H locs → decode cX11_isBesideGroup pc = .ok (.ireturn, 1) → W p l e (rmm 1 21) s m args below meth c H locs 0 0 Q (F0 m pc ls [.int (w)])) {H : Heap} {locs : List Loc} {ls : Array Slot} (Y : Wd g s σ H locs) (hl : lv_has ls 6 [(0, .ref (g.2.2 (101))), (1, .int (x1)), (2, .int (x2)), (3, .int (x3)), (4, .int (x4))]) (h : f_X11_isBesideGroup_j29 x1 x2 x3 x4 σ = some w) : W p l e (rmm 1 21) s m args below meth c H locs 0 0 Q (F0 m 29 ls []) := by
  unfold f_X11_isBesideGroup_j29 at h
  refine lv_iload_n X.1 X.2.1 (dk T_X11_isBesideGroup 19 rfl) rfl (lv_at hl 2 rfl) ?_
  refine lv_iconst (v := 1) X.1 X.2.1 (dk T_X11_isBesideGroup 20 rfl) ic_1 ?_
  refine lv_iadd X.1 X.2.1 (dk T_X11_isBesideGroup 21 rfl) ?_
  refine lv_iload X.1 X.2.1 (dk T_X11_isBesideGroup 22 rfl) (lv_at hl 4 rfl) ?_
  obtain ⟨g4, h⟩ := gd h
  refine lv_irem X.1 X.2.1 (dk T_X11_isBesideGroup 23 rfl) (nzp g4) ?_
  refine lv_if_le (tgt := 54) X.1 X.2.1 (dk T_X11_isBesideGroup 24 rfl) rfl (fun c5 => ?_) (fun c5 => ?_)
  · replace h := ipos c5 h
    exact w_X11_isBesideGroup_j54 X x1 x2 x3 x4 σ KR Y (lv_sub hl [0, 1, 2, 3, 4] rfl) h
  · replace h := ineg c5 h
    refine lv_aload_n X.1 X.2.1 (dk T_X11_isBesideGroup 25 rfl) rfl (lv_at hl 0 rfl) ?_
    refine gg X Y fl_X11_40 rfl rfl (dk T_X11_isBesideGroup 26 rfl) ?_
    refine lv_iload_n X.1 X.2.1 (dk T_X11_isBesideGroup 27 rfl) rfl (lv_at hl 2 rfl) ?_
    refine lv_iconst (v := 1) X.1 X.2.1 (dk T_X11_isBesideGroup 28 rfl) ic_1 ?_
    refine lv_iadd X.1 X.2.1 (dk T_X11_isBesideGroup 29 rfl) ?_
    obtain ⟨g14, h⟩ := gd h
    refine gil X Y rfl (inp g14) (dk T_X11_isBesideGroup 30 rfl) ?_
    refine lv_iload_n X.1 X.2.1 (dk T_X11_isBesideGroup 31 rfl) rfl (lv_at hl 3 rfl) ?_
    refine lv_icmp_ne (tgt := 54) X.1 X.2.1 (dk T_X11_isBesideGroup 32 rfl) rfl (fun c15 => ?_) (fun c15 => ?_)
    · replace h := ineg c15 h
      exact w_X11_isBesideGroup_j54 X x1 x2 x3 x4 σ KR Y (lv_sub hl [0, 1, 2, 3, 4] rfl) h
    · replace h := ipos c15 h
      exact w_X11_isBesideGroup_j50 X x1 x2 x3 x4 σ KR Y (lv_sub hl [0, 1, 2, 3, 4] rfl) h
def f_X11_isBesideGroup_0 (x1 : Int32) (x2 : Int32) (x3 : Int32) (σ : St) : Option (Int32) :=
  chk (inb (3 + x1) 761) (chk (nz (σ 102 (3 + x1).toNatClampNeg)) (if (x2 - x2 / (σ 102 (3 + x1).toNatClampNeg) * (σ 102 (3 + x1).toNatClampNeg)) ≤ 0 then f_X11_isBesideGroup_j29 x1 x2 x3 (σ 102 (3 + x1).toNatClampNeg) σ else chk (inb (x2 - 1) 100) (if (σ 112 (x2 - 1).toNatClampNeg) = x3 then f_X11_isBesideGroup_j50 x1 x2 x3 (σ 102 (3 + x1).toNatClampNeg) σ else f_X11_isBesideGroup_j29 x1 x2 x3 (σ 102 (3 + x1).toNatClampNeg) σ)))
set_option maxHeartbeats 4000000 in
set_option maxRecDepth 100000 in
theorem w_X11_isBesideGroup_0 (X : Cx g RX11 cX11_isBesideGroup 6 (some .boolean) p s m args meth c) (x1 : Int32) (x2 : Int32) (x3 : Int32) (σ : St) {w : Int32} (KR : ∀ (H : Heap) (locs : List Loc) (ls : Array Slot) (pc : Nat), Wd g s σ H locs → decode cX11_isBesideGroup pc = .ok (.ireturn, 1) → W p l e (rmm 1 21) s m args below meth c H locs 0 0 Q (F0 m pc ls [.int (w)])) {H : Heap} {locs : List Loc} {ls : Array Slot} (Y : Wd g s σ H locs) (hl : lv_has ls 6 [(0, .ref (g.2.2 (101))), (1, .int (x1)), (2, .int (x2)), (3, .int (x3))]) (h : f_X11_isBesideGroup_0 x1 x2 x3 σ = some w) : W p l e (rmm 1 21) s m args below meth c H locs 0 0 Q (F0 m 0 ls []) := by
  unfold f_X11_isBesideGroup_0 at h
  refine lv_aload_n X.1 X.2.1 (dk T_X11_isBesideGroup 0 rfl) rfl (lv_at hl 0 rfl) ?_
  refine gg X Y fl_X11_7 rfl rfl (dk T_X11_isBesideGroup 1 rfl) ?_
  refine lv_iconst (v := 3) X.1 X.2.1 (dk T_X11_isBesideGroup 2 rfl) ic_3 ?_
  refine lv_iload_n X.1 X.2.1 (dk T_X11_isBesideGroup 3 rfl) rfl (lv_at hl 1 rfl) ?_
  refine lv_iadd X.1 X.2.1 (dk T_X11_isBesideGroup 4 rfl) ?_
  obtain ⟨g1, h⟩ := gd h
  refine gil X Y rfl (inp g1) (dk T_X11_isBesideGroup 5 rfl) ?_
  refine lv_istore (lv' := [(4, .int (σ 102 (3 + x1).toNatClampNeg)), (0, .ref (g.2.2 (101))), (1, .int (x1)), (2, .int (x2)), (3, .int (x3))]) X.1 X.2.1 (dk T_X11_isBesideGroup 6 rfl) hl (Nat.le_of_ble_eq_true rfl) rfl (fun ls hl => ?_)
  refine lv_iload_n X.1 X.2.1 (dk T_X11_isBesideGroup 7 rfl) rfl (lv_at hl 3 rfl) ?_
  refine lv_iload X.1 X.2.1 (dk T_X11_isBesideGroup 8 rfl) (lv_at hl 0 rfl) ?_
  obtain ⟨g2, h⟩ := gd h
  refine lv_irem X.1 X.2.1 (dk T_X11_isBesideGroup 9 rfl) (nzp g2) ?_
  refine lv_if_le (tgt := 29) X.1 X.2.1 (dk T_X11_isBesideGroup 10 rfl) rfl (fun c3 => ?_) (fun c3 => ?_)
  · replace h := ipos c3 h
    exact w_X11_isBesideGroup_j29 X x1 x2 x3 (σ 102 (3 + x1).toNatClampNeg) σ KR Y (lv_sub hl [1, 2, 3, 4, 0] rfl) h
  · replace h := ineg c3 h
    refine lv_aload_n X.1 X.2.1 (dk T_X11_isBesideGroup 11 rfl) rfl (lv_at hl 1 rfl) ?_
    refine gg X Y fl_X11_40 rfl rfl (dk T_X11_isBesideGroup 12 rfl) ?_
    refine lv_iload_n X.1 X.2.1 (dk T_X11_isBesideGroup 13 rfl) rfl (lv_at hl 3 rfl) ?_
    refine lv_iconst (v := 1) X.1 X.2.1 (dk T_X11_isBesideGroup 14 rfl) ic_1 ?_
    refine lv_isub X.1 X.2.1 (dk T_X11_isBesideGroup 15 rfl) ?_
    obtain ⟨g16, h⟩ := gd h
    refine gil X Y rfl (inp g16) (dk T_X11_isBesideGroup 16 rfl) ?_
    refine lv_iload_n X.1 X.2.1 (dk T_X11_isBesideGroup 17 rfl) rfl (lv_at hl 4 rfl) ?_
    refine lv_icmp_eq (tgt := 50) X.1 X.2.1 (dk T_X11_isBesideGroup 18 rfl) rfl (fun c17 => ?_) (fun c17 => ?_)
    · replace h := ipos c17 h
      exact w_X11_isBesideGroup_j50 X x1 x2 x3 (σ 102 (3 + x1).toNatClampNeg) σ KR Y (lv_sub hl [1, 2, 3, 4, 0] rfl) h
    · replace h := ineg c17 h
      exact w_X11_isBesideGroup_j29 X x1 x2 x3 (σ 102 (3 + x1).toNatClampNeg) σ KR Y (lv_sub hl [1, 2, 3, 4, 0] rfl) h
def f_X11_isBesideGroup (x1 : Int32) (x2 : Int32) (x3 : Int32) (σ : St) : Option (Int32) := bz (f_X11_isBesideGroup_0 x1 x2 x3 σ)
set_option maxHeartbeats 4000000 in
set_option maxRecDepth 100000 in
theorem c_X11_isBesideGroup {l : Launch} {g : Geo} (x1 : Int32) (x2 : Int32) (x3 : Int32) (σ : St) {w : Int32} (h : f_X11_isBesideGroup x1 x2 x3 σ = some w) : CtI l yX11_isBesideGroup cX11_isBesideGroup 6 (some .boolean) (rmm 1 21) g [.ref (g.2.2 (101)), .int (x1), .int (x2), .int (x3)] σ w σ := by
  obtain ⟨h, hz⟩ := bz_s h
  exact enI .boolean (by decide) rfl (bz_n hz) (Nat.le_of_ble_eq_true rfl) (fun p e s m args below meth c Q X Y ls hl KR => w_X11_isBesideGroup_0 X x1 x2 x3 σ KR Y hl h)
def I_X11_grows : List (Nat × Instr × Nat) := [(0, .iconst 1, 1), (1, .istore_n 3, 1), (2, .iload_n 3, 1), (3, .ifCond .eq 69, 3), (6, .iconst 0, 1), (7, .istore_n 3, 1), (8, .iconst 0, 1), (9, .istore 4, 2), (11, .iload 4, 2), (13, .aload_n 0, 1), (14, .iload_n 1, 1), (15, .invokevirtual 149, 3), (18, .if_icmp .ge 51, 3), (21, .aload_n 0, 1), (22, .iload_n 1, 1), (23, .iload 4, 2), (25, .invokevirtual 152, 3), (28, .ifCond .eq 35, 3), (31, .aload_n 0, 1), (32, .getfield 40, 3), (35, .iload 4, 2), (37, .iaload, 1), (38, .iconst (-1), 1), (39, .if_icmp .ne 24, 3), (42, .aload_n 0, 1), (43, .iload_n 1, 1), (44, .iload 4, 2), (46, .iload_n 2, 1), (47, .invokevirtual 172, 3), (50, .ifCond .eq 13, 3), (53, .aload_n 0, 1), (54, .getfield 40, 3), (57, .iload 4, 2), (59, .iload_n 2, 1), (60, .iastore, 1), (61, .iconst 1, 1), (62, .istore_n 3, 1), (63, .iinc 4 1, 3), (66, .goto (-55), 3), (69, .goto (-67), 3), (72, .return_, 1)]
set_option maxRecDepth 100000 in
theorem T_X11_grows : ∀ q ∈ I_X11_grows, decode cX11_grows q.1 = .ok (q.2.1, q.2.2) := by decide +kernel
def f_X11_grows_j63 (x1 : Int32) (x2 : Int32) (x3 : Int32) (x4 : Int32) (σ : St) : Option ((Int32 × Int32 × St) ⊕ (Int32 × St)) :=
  some (.inl (x3, x4 + 1, σ))
set_option maxHeartbeats 4000000 in
set_option maxRecDepth 100000 in
theorem w_X11_grows_j63 (X : Cx g RX11 cX11_grows 5 none p s m args meth c) (x1 : Int32) (x2 : Int32) (x3 : Int32) (x4 : Int32) (σ : St) {w : (Int32 × Int32 × St) ⊕ (Int32 × St)} (KB : ∀ (v0_ : Int32) (v1_ : Int32) (v2_ : St), w = .inl (v0_, v1_, v2_) → ∀ (H : Heap) (locs : List Loc) (ls : Array Slot), Wd g s v2_ H locs → lv_has ls 5 [(0, .ref (g.2.2 (101))), (1, .int (x1)), (2, .int (x2)), (3, .int (v0_)), (4, .int (v1_))] → W p l e (rmm 2 46) s m args below meth c H locs 0 0 Q (F0 m 11 ls [])) (KX0 : ∀ (v0_ : Int32) (v1_ : St), w = .inr (v0_, v1_) → ∀ (H : Heap) (locs : List Loc) (ls : Array Slot), Wd g s v1_ H locs → lv_has ls 5 [(0, .ref (g.2.2 (101))), (1, .int (x1)), (2, .int (x2)), (3, .int (v0_))] → W p l e (rmm 2 46) s m args below meth c H locs 0 0 Q (F0 m 69 ls [])) {H : Heap} {locs : List Loc} {ls : Array Slot} (Y : Wd g s σ H locs) (hl : lv_has ls 5 [(0, .ref (g.2.2 (101))), (1, .int (x1)), (2, .int (x2)), (3, .int (x3)), (4, .int (x4))]) (h : f_X11_grows_j63 x1 x2 x3 x4 σ = some w) : W p l e (rmm 2 46) s m args below meth c H locs 0 0 Q (F0 m 63 ls []) := by
  unfold f_X11_grows_j63 at h
  refine lv_iinc (v := x4 + 1) (lv' := [(4, .int (x4 + 1)), (0, .ref (g.2.2 (101))), (1, .int (x1)), (2, .int (x2)), (3, .int (x3))]) X.1 X.2.1 (dk T_X11_grows 37 rfl) hl (k := 4) rfl (icx ic_1) (Nat.le_of_ble_eq_true rfl) rfl (fun ls hl => ?_)
  refine lv_goto (tgt := 11) X.1 X.2.1 (dk T_X11_grows 38 rfl) rfl ?_
  exact KB x3 (x4 + 1) σ (Option.some.inj h).symm _ _ _ Y (lv_sub hl [1, 2, 3, 4, 0] rfl)
def f_X11_grows_l11 (x1 : Int32) (x2 : Int32) (z : Int32 × Int32 × St) : Option ((Int32 × Int32 × St) ⊕ (Int32 × St)) :=
  (f_X11_cells x1 z.2.2).bind fun q2 => if q2 ≤ z.2.1 then some (.inr (z.1, z.2.2)) else (f_X11_isFree x1 z.2.1 z.2.2).bind fun q4 => if q4 = 0 then f_X11_grows_j63 x1 x2 z.1 z.2.1 z.2.2 else chk (inb z.2.1 100) (if (z.2.2 112 z.2.1.toNatClampNeg) = (-1) then (f_X11_isBesideGroup x1 z.2.1 x2 z.2.2).bind fun q8 => if q8 = 0 then f_X11_grows_j63 x1 x2 z.1 z.2.1 z.2.2 else chk (inb z.2.1 100) (f_X11_grows_j63 x1 x2 1 z.2.1 (up z.2.2 112 z.2.1.toNatClampNeg x2)) else f_X11_grows_j63 x1 x2 z.1 z.2.1 z.2.2)
set_option maxHeartbeats 4000000 in
set_option maxRecDepth 100000 in
theorem w_X11_grows_l11 (X : Cx g RX11 cX11_grows 5 none p s m args meth c) (x1 : Int32) (x2 : Int32) (σ : St) {r : Int32 × St} (KX0 : ∀ (v0_ : Int32) (v1_ : St), r = (v0_, v1_) → ∀ (H : Heap) (locs : List Loc) (ls : Array Slot), Wd g s v1_ H locs → lv_has ls 5 [(0, .ref (g.2.2 (101))), (1, .int (x1)), (2, .int (x2)), (3, .int (v0_))] → W p l e (rmm 2 46) s m args below meth c H locs 0 0 Q (F0 m 69 ls [])) : ∀ (n : Nat) (z : Int32 × Int32 × St) {H : Heap} {locs : List Loc} {ls : Array Slot}, Wd g s z.2.2 H locs → lv_has ls 5 [(0, .ref (g.2.2 (101))), (1, .int (x1)), (2, .int (x2)), (3, .int (z.1)), (4, .int (z.2.1))] → lp (f_X11_grows_l11 x1 x2) n z = some r → W p l e (rmm 2 46) s m args below meth c H locs 0 0 Q (F0 m 11 ls []) := by
  intro n
  induction n with
  | zero => intro z H locs ls Y hl h; cases h
  | succ n ih =>
    intro z H locs ls Y hl h
    obtain ⟨w, h, hw⟩ := lps h
    have KB : ∀ (v0_ : Int32) (v1_ : Int32) (v2_ : St), w = .inl (v0_, v1_, v2_) → ∀ (H : Heap) (locs : List Loc) (ls : Array Slot), Wd g s v2_ H locs → lv_has ls 5 [(0, .ref (g.2.2 (101))), (1, .int (x1)), (2, .int (x2)), (3, .int (v0_)), (4, .int (v1_))] → W p l e (rmm 2 46) s m args below meth c H locs 0 0 Q (F0 m 11 ls []) := fun v0_ v1_ v2_ e H locs ls Y hl => ih (v0_, v1_, v2_) Y hl (lpl hw e)
    have KX0 := fun (v0_ : Int32) (v1_ : St) (e : w = .inr (v0_, v1_)) => KX0 v0_ v1_ (lpr hw e)
    unfold f_X11_grows_l11 at h
    refine lv_iload X.1 X.2.1 (dk T_X11_grows 8 rfl) (lv_at hl 4 rfl) ?_
    refine lv_aload_n X.1 X.2.1 (dk T_X11_grows 9 rfl) rfl (lv_at hl 0 rfl) ?_
    refine lv_iload_n X.1 X.2.1 (dk T_X11_grows 10 rfl) rfl (lv_at hl 1 rfl) ?_
    obtain ⟨q2, hq2, h⟩ := bs h
    refine gvI (rest := [.int (z.2.1)]) X Y (c_X11_cells x1 z.2.2 hq2) cb_X11_149 rfl hl.1 rfl rfl (Nat.le_of_ble_eq_true rfl) ⟨Nat.le_of_ble_eq_true rfl, Nat.le_of_ble_eq_true rfl⟩ (dk T_X11_grows 11 rfl) (fun H locs Y => ?_)
    refine lv_icmp_ge (tgt := 69) X.1 X.2.1 (dk T_X11_grows 12 rfl) rfl (fun c3 => ?_) (fun c3 => ?_)
    · replace h := ipos c3 h
      exact KX0 z.1 z.2.2 (Option.some.inj h).symm _ _ _ Y (lv_sub hl [0, 1, 2, 3] rfl)
    · replace h := ineg c3 h
      refine lv_aload_n X.1 X.2.1 (dk T_X11_grows 13 rfl) rfl (lv_at hl 0 rfl) ?_
      refine lv_iload_n X.1 X.2.1 (dk T_X11_grows 14 rfl) rfl (lv_at hl 1 rfl) ?_
      refine lv_iload X.1 X.2.1 (dk T_X11_grows 15 rfl) (lv_at hl 4 rfl) ?_
      obtain ⟨q4, hq4, h⟩ := bs h
      refine gvI (rest := []) X Y (c_X11_isFree x1 z.2.1 z.2.2 hq4) cb_X11_152 rfl hl.1 rfl rfl (Nat.le_of_ble_eq_true rfl) ⟨Nat.le_of_ble_eq_true rfl, Nat.le_of_ble_eq_true rfl⟩ (dk T_X11_grows 16 rfl) (fun H locs Y => ?_)
      refine lv_if_eq (tgt := 63) X.1 X.2.1 (dk T_X11_grows 17 rfl) rfl (fun c5 => ?_) (fun c5 => ?_)
      · replace h := ipos c5 h
        exact w_X11_grows_j63 X x1 x2 z.1 z.2.1 z.2.2 KB KX0 Y (lv_sub hl [0, 1, 2, 3, 4] rfl) h
      · replace h := ineg c5 h
        refine lv_aload_n X.1 X.2.1 (dk T_X11_grows 18 rfl) rfl (lv_at hl 0 rfl) ?_
        refine gg X Y fl_X11_40 rfl rfl (dk T_X11_grows 19 rfl) ?_
        refine lv_iload X.1 X.2.1 (dk T_X11_grows 20 rfl) (lv_at hl 4 rfl) ?_
        obtain ⟨g6, h⟩ := gd h
        refine gil X Y rfl (inp g6) (dk T_X11_grows 21 rfl) ?_
        refine lv_iconst (v := (-1)) X.1 X.2.1 (dk T_X11_grows 22 rfl) ic_m1 ?_
        refine lv_icmp_ne (tgt := 63) X.1 X.2.1 (dk T_X11_grows 23 rfl) rfl (fun c7 => ?_) (fun c7 => ?_)
        · replace h := ineg c7 h
          exact w_X11_grows_j63 X x1 x2 z.1 z.2.1 z.2.2 KB KX0 Y (lv_sub hl [0, 1, 2, 3, 4] rfl) h
        · replace h := ipos c7 h
          refine lv_aload_n X.1 X.2.1 (dk T_X11_grows 24 rfl) rfl (lv_at hl 0 rfl) ?_
          refine lv_iload_n X.1 X.2.1 (dk T_X11_grows 25 rfl) rfl (lv_at hl 1 rfl) ?_
          refine lv_iload X.1 X.2.1 (dk T_X11_grows 26 rfl) (lv_at hl 4 rfl) ?_
          refine lv_iload_n X.1 X.2.1 (dk T_X11_grows 27 rfl) rfl (lv_at hl 2 rfl) ?_
          obtain ⟨q8, hq8, h⟩ := bs h
          refine gvI (rest := []) X Y (c_X11_isBesideGroup x1 z.2.1 x2 z.2.2 hq8) cb_X11_172 rfl hl.1 rfl rfl (Nat.le_of_ble_eq_true rfl) ⟨Nat.le_of_ble_eq_true rfl, Nat.le_of_ble_eq_true rfl⟩ (dk T_X11_grows 28 rfl) (fun H locs Y => ?_)
          refine lv_if_eq (tgt := 63) X.1 X.2.1 (dk T_X11_grows 29 rfl) rfl (fun c9 => ?_) (fun c9 => ?_)
          · replace h := ipos c9 h
            exact w_X11_grows_j63 X x1 x2 z.1 z.2.1 z.2.2 KB KX0 Y (lv_sub hl [0, 1, 2, 3, 4] rfl) h
          · replace h := ineg c9 h
            refine lv_aload_n X.1 X.2.1 (dk T_X11_grows 30 rfl) rfl (lv_at hl 0 rfl) ?_
            refine gg X Y fl_X11_40 rfl rfl (dk T_X11_grows 31 rfl) ?_
            refine lv_iload X.1 X.2.1 (dk T_X11_grows 32 rfl) (lv_at hl 4 rfl) ?_
            refine lv_iload_n X.1 X.2.1 (dk T_X11_grows 33 rfl) rfl (lv_at hl 2 rfl) ?_
            obtain ⟨g10, h⟩ := gd h
            refine gis X Y rfl (inp g10) (dk T_X11_grows 34 rfl) (fun H locs Y => ?_)
            refine lv_iconst (v := 1) X.1 X.2.1 (dk T_X11_grows 35 rfl) ic_1 ?_
            refine lv_istore_n (lv' := [(3, .int (1)), (0, .ref (g.2.2 (101))), (1, .int (x1)), (2, .int (x2)), (4, .int (z.2.1))]) X.1 X.2.1 (dk T_X11_grows 36 rfl) rfl hl (Nat.le_of_ble_eq_true rfl) rfl (fun ls hl => ?_)
            exact w_X11_grows_j63 X x1 x2 1 z.2.1 (up z.2.2 112 z.2.1.toNatClampNeg x2) KB KX0 Y (lv_sub hl [1, 2, 3, 0, 4] rfl) h
def f_X11_grows_l2 (x1 : Int32) (x2 : Int32) (z : Int32 × St) : Option ((Int32 × St) ⊕ (St)) :=
  if z.1 = 0 then some (.inr z.2) else (lp (f_X11_grows_l11 x1 x2) FU (0, 0, z.2)).bind fun q11 => some (.inl (q11.1, q11.2))
set_option maxHeartbeats 4000000 in
set_option maxRecDepth 100000 in
theorem w_X11_grows_l2 (X : Cx g RX11 cX11_grows 5 none p s m args meth c) (x1 : Int32) (x2 : Int32) (σ : St) {r : St} (KX0 : ∀ (v : St), r = v → ∀ (H : Heap) (locs : List Loc) (ls : Array Slot), Wd g s v H locs → lv_has ls 5 [] → W p l e (rmm 2 46) s m args below meth c H locs 0 0 Q (F0 m 72 ls [])) : ∀ (n : Nat) (z : Int32 × St) {H : Heap} {locs : List Loc} {ls : Array Slot}, Wd g s z.2 H locs → lv_has ls 5 [(0, .ref (g.2.2 (101))), (1, .int (x1)), (2, .int (x2)), (3, .int (z.1))] → lp (f_X11_grows_l2 x1 x2) n z = some r → W p l e (rmm 2 46) s m args below meth c H locs 0 0 Q (F0 m 2 ls []) := by
  intro n
  induction n with
  | zero => intro z H locs ls Y hl h; cases h
  | succ n ih =>
    intro z H locs ls Y hl h
    obtain ⟨w, h, hw⟩ := lps h
    have KB : ∀ (v0_ : Int32) (v1_ : St), w = .inl (v0_, v1_) → ∀ (H : Heap) (locs : List Loc) (ls : Array Slot), Wd g s v1_ H locs → lv_has ls 5 [(0, .ref (g.2.2 (101))), (1, .int (x1)), (2, .int (x2)), (3, .int (v0_))] → W p l e (rmm 2 46) s m args below meth c H locs 0 0 Q (F0 m 2 ls []) := fun v0_ v1_ e H locs ls Y hl => ih (v0_, v1_) Y hl (lpl hw e)
    have KX0 := fun (v : St) (e : w = .inr v) => KX0 v (lpr hw e)
    unfold f_X11_grows_l2 at h
    refine lv_iload_n X.1 X.2.1 (dk T_X11_grows 2 rfl) rfl (lv_at hl 3 rfl) ?_
    refine lv_if_eq (tgt := 72) X.1 X.2.1 (dk T_X11_grows 3 rfl) rfl (fun c1 => ?_) (fun c1 => ?_)
    · replace h := ipos c1 h
      exact KX0 z.2 (Option.some.inj h).symm _ _ _ Y (lv_sub hl [] rfl)
    · replace h := ineg c1 h
      refine lv_iconst (v := 0) X.1 X.2.1 (dk T_X11_grows 4 rfl) ic_0 ?_
      refine lv_istore_n (lv' := [(3, .int (0)), (0, .ref (g.2.2 (101))), (1, .int (x1)), (2, .int (x2))]) X.1 X.2.1 (dk T_X11_grows 5 rfl) rfl hl (Nat.le_of_ble_eq_true rfl) rfl (fun ls hl => ?_)
      refine lv_iconst (v := 0) X.1 X.2.1 (dk T_X11_grows 6 rfl) ic_0 ?_
      refine lv_istore (lv' := [(4, .int (0)), (3, .int (0)), (0, .ref (g.2.2 (101))), (1, .int (x1)), (2, .int (x2))]) X.1 X.2.1 (dk T_X11_grows 7 rfl) hl (Nat.le_of_ble_eq_true rfl) rfl (fun ls hl => ?_)
      obtain ⟨q11, hq11, h⟩ := bs h
      refine w_X11_grows_l11 X x1 x2 σ (fun v0_ v1_ e H locs ls Y hl => ?_) FU (0, 0, z.2) Y (lv_sub hl [2, 3, 4, 1, 0] rfl) hq11
      · obtain ⟨rfl, rfl⟩ : v0_ = q11.1 ∧ v1_ = q11.2 := ⟨by rw [e], by rw [e]⟩
        refine lv_goto (tgt := 2) X.1 X.2.1 (dk T_X11_grows 39 rfl) rfl ?_
        exact KB q11.1 q11.2 (Option.some.inj h).symm _ _ _ Y (lv_sub hl [0, 1, 2, 3] rfl)
def f_X11_grows_0 (x1 : Int32) (x2 : Int32) (σ : St) : Option (St) :=
  (lp (f_X11_grows_l2 x1 x2) FU (1, σ)).bind fun q12 => some q12
set_option maxHeartbeats 4000000 in
set_option maxRecDepth 100000 in
theorem w_X11_grows_0 (X : Cx g RX11 cX11_grows 5 none p s m args meth c) (x1 : Int32) (x2 : Int32) (σ : St) {w : St} (KR : ∀ (H : Heap) (locs : List Loc) (ls : Array Slot) (pc : Nat), Wd g s w H locs → decode cX11_grows pc = .ok (.return_, 1) → W p l e (rmm 2 46) s m args below meth c H locs 0 0 Q (F0 m pc ls [])) {H : Heap} {locs : List Loc} {ls : Array Slot} (Y : Wd g s σ H locs) (hl : lv_has ls 5 [(0, .ref (g.2.2 (101))), (1, .int (x1)), (2, .int (x2))]) (h : f_X11_grows_0 x1 x2 σ = some w) : W p l e (rmm 2 46) s m args below meth c H locs 0 0 Q (F0 m 0 ls []) := by
  unfold f_X11_grows_0 at h
  refine lv_iconst (v := 1) X.1 X.2.1 (dk T_X11_grows 0 rfl) ic_1 ?_
  refine lv_istore_n (lv' := [(3, .int (1)), (0, .ref (g.2.2 (101))), (1, .int (x1)), (2, .int (x2))]) X.1 X.2.1 (dk T_X11_grows 1 rfl) rfl hl (Nat.le_of_ble_eq_true rfl) rfl (fun ls hl => ?_)
  obtain ⟨q12, hq12, h⟩ := bs h
  refine w_X11_grows_l2 X x1 x2 σ (fun v e H locs ls Y hl => ?_) FU (1, σ) Y (lv_sub hl [1, 2, 3, 0] rfl) hq12
  · obtain rfl := e
    obtain rfl := Option.some.inj h
    exact KR _ _ _ _ Y (dk T_X11_grows 40 rfl)
def f_X11_grows (x1 : Int32) (x2 : Int32) (σ : St) : Option (St) := f_X11_grows_0 x1 x2 σ
set_option maxHeartbeats 4000000 in
set_option maxRecDepth 100000 in
theorem c_X11_grows {l : Launch} {g : Geo} (x1 : Int32) (x2 : Int32) (σ : St) {w : St} (h : f_X11_grows x1 x2 σ = some w) : CtV l yX11_grows cX11_grows 5 none (rmm 2 46) g [.ref (g.2.2 (101)), .int (x1), .int (x2)] σ w := enV (by decide) rfl (Nat.le_of_ble_eq_true rfl) (fun p e s m args below meth c Q X Y ls hl KR => w_X11_grows_0 X x1 x2 σ KR Y hl h)
def I_X11_remnants : List (Nat × Instr × Nat) := [(0, .aload_n 0, 1), (1, .iload_n 1, 1), (2, .invokevirtual 145, 3), (5, .aload_n 0, 1), (6, .iconst 0, 1), (7, .putfield 165, 3), (10, .iconst 0, 1), (11, .istore_n 2, 1), (12, .iload_n 2, 1), (13, .bipush 100, 2), (15, .if_icmp .ge 16, 3), (18, .aload_n 0, 1), (19, .getfield 40, 3), (22, .iload_n 2, 1), (23, .iconst (-1), 1), (24, .iastore, 1), (25, .iinc 2 1, 3), (28, .goto (-16), 3), (31, .iconst 0, 1), (32, .istore_n 2, 1), (33, .iload_n 2, 1), (34, .aload_n 0, 1), (35, .iload_n 1, 1), (36, .invokevirtual 149, 3), (39, .if_icmp .ge 57, 3), (42, .aload_n 0, 1), (43, .iload_n 1, 1), (44, .iload_n 2, 1), (45, .invokevirtual 152, 3), (48, .ifCond .eq 42, 3), (51, .aload_n 0, 1), (52, .getfield 40, 3), (55, .iload_n 2, 1), (56, .iaload, 1), (57, .iconst (-1), 1), (58, .if_icmp .ne 32, 3), (61, .aload_n 0, 1), (62, .getfield 40, 3), (65, .iload_n 2, 1), (66, .aload_n 0, 1), (67, .getfield 165, 3), (70, .iastore, 1), (71, .aload_n 0, 1), (72, .iload_n 1, 1), (73, .aload_n 0, 1), (74, .getfield 165, 3), (77, .invokevirtual 168, 3), (80, .aload_n 0, 1), (81, .dup, 1), (82, .getfield 165, 3), (85, .iconst 1, 1), (86, .iadd, 1), (87, .putfield 165, 3), (90, .iinc 2 1, 3), (93, .goto (-60), 3), (96, .return_, 1)]
set_option maxRecDepth 100000 in
theorem T_X11_remnants : ∀ q ∈ I_X11_remnants, decode cX11_remnants q.1 = .ok (q.2.1, q.2.2) := by decide +kernel
def f_X11_remnants_l12 (x1 : Int32) (z : Int32 × St) : Option ((Int32 × St) ⊕ (St)) :=
  if 100 ≤ z.1 then some (.inr z.2) else chk (inb z.1 100) (some (.inl (z.1 + 1, up z.2 112 z.1.toNatClampNeg (-1))))
set_option maxHeartbeats 4000000 in
set_option maxRecDepth 100000 in
theorem w_X11_remnants_l12 (X : Cx g RX11 cX11_remnants 3 none p s m args meth c) (x1 : Int32) (σ : St) {r : St} (KX0 : ∀ (v : St), r = v → ∀ (H : Heap) (locs : List Loc) (ls : Array Slot), Wd g s v H locs → lv_has ls 3 [(0, .ref (g.2.2 (101))), (1, .int (x1))] → W p l e (rmm 4 95) s m args below meth c H locs 0 0 Q (F0 m 31 ls [])) : ∀ (n : Nat) (z : Int32 × St) {H : Heap} {locs : List Loc} {ls : Array Slot}, Wd g s z.2 H locs → lv_has ls 3 [(0, .ref (g.2.2 (101))), (1, .int (x1)), (2, .int (z.1))] → lp (f_X11_remnants_l12 x1) n z = some r → W p l e (rmm 4 95) s m args below meth c H locs 0 0 Q (F0 m 12 ls []) := by
  intro n
  induction n with
  | zero => intro z H locs ls Y hl h; cases h
  | succ n ih =>
    intro z H locs ls Y hl h
    obtain ⟨w, h, hw⟩ := lps h
    have KB : ∀ (v0_ : Int32) (v1_ : St), w = .inl (v0_, v1_) → ∀ (H : Heap) (locs : List Loc) (ls : Array Slot), Wd g s v1_ H locs → lv_has ls 3 [(0, .ref (g.2.2 (101))), (1, .int (x1)), (2, .int (v0_))] → W p l e (rmm 4 95) s m args below meth c H locs 0 0 Q (F0 m 12 ls []) := fun v0_ v1_ e H locs ls Y hl => ih (v0_, v1_) Y hl (lpl hw e)
    have KX0 := fun (v : St) (e : w = .inr v) => KX0 v (lpr hw e)
    unfold f_X11_remnants_l12 at h
    refine lv_iload_n X.1 X.2.1 (dk T_X11_remnants 8 rfl) rfl (lv_at hl 2 rfl) ?_
    refine lv_bipush (v := 100) X.1 X.2.1 (dk T_X11_remnants 9 rfl) bp_100 ?_
    refine lv_icmp_ge (tgt := 31) X.1 X.2.1 (dk T_X11_remnants 10 rfl) rfl (fun c2 => ?_) (fun c2 => ?_)
    · replace h := ipos c2 h
      exact KX0 z.2 (Option.some.inj h).symm _ _ _ Y (lv_sub hl [0, 1] rfl)
    · replace h := ineg c2 h
      refine lv_aload_n X.1 X.2.1 (dk T_X11_remnants 11 rfl) rfl (lv_at hl 0 rfl) ?_
      refine gg X Y fl_X11_40 rfl rfl (dk T_X11_remnants 12 rfl) ?_
      refine lv_iload_n X.1 X.2.1 (dk T_X11_remnants 13 rfl) rfl (lv_at hl 2 rfl) ?_
      refine lv_iconst (v := (-1)) X.1 X.2.1 (dk T_X11_remnants 14 rfl) ic_m1 ?_
      obtain ⟨g3, h⟩ := gd h
      refine gis X Y rfl (inp g3) (dk T_X11_remnants 15 rfl) (fun H locs Y => ?_)
      refine lv_iinc (v := z.1 + 1) (lv' := [(2, .int (z.1 + 1)), (0, .ref (g.2.2 (101))), (1, .int (x1))]) X.1 X.2.1 (dk T_X11_remnants 16 rfl) hl (k := 2) rfl (icx ic_1) (Nat.le_of_ble_eq_true rfl) rfl (fun ls hl => ?_)
      refine lv_goto (tgt := 12) X.1 X.2.1 (dk T_X11_remnants 17 rfl) rfl ?_
      exact KB (z.1 + 1) (up z.2 112 z.1.toNatClampNeg (-1)) (Option.some.inj h).symm _ _ _ Y (lv_sub hl [1, 2, 0] rfl)
def f_X11_remnants_j90 (x1 : Int32) (x2 : Int32) (σ : St) : Option ((Int32 × St) ⊕ (St)) :=
  some (.inl (x2 + 1, σ))
set_option maxHeartbeats 4000000 in
set_option maxRecDepth 100000 in
theorem w_X11_remnants_j90 (X : Cx g RX11 cX11_remnants 3 none p s m args meth c) (x1 : Int32) (x2 : Int32) (σ : St) {w : (Int32 × St) ⊕ (St)} (KB : ∀ (v0_ : Int32) (v1_ : St), w = .inl (v0_, v1_) → ∀ (H : Heap) (locs : List Loc) (ls : Array Slot), Wd g s v1_ H locs → lv_has ls 3 [(0, .ref (g.2.2 (101))), (1, .int (x1)), (2, .int (v0_))] → W p l e (rmm 4 95) s m args below meth c H locs 0 0 Q (F0 m 33 ls [])) (KX0 : ∀ (v : St), w = .inr v → ∀ (H : Heap) (locs : List Loc) (ls : Array Slot), Wd g s v H locs → lv_has ls 3 [] → W p l e (rmm 4 95) s m args below meth c H locs 0 0 Q (F0 m 96 ls [])) {H : Heap} {locs : List Loc} {ls : Array Slot} (Y : Wd g s σ H locs) (hl : lv_has ls 3 [(0, .ref (g.2.2 (101))), (1, .int (x1)), (2, .int (x2))]) (h : f_X11_remnants_j90 x1 x2 σ = some w) : W p l e (rmm 4 95) s m args below meth c H locs 0 0 Q (F0 m 90 ls []) := by
  unfold f_X11_remnants_j90 at h
  refine lv_iinc (v := x2 + 1) (lv' := [(2, .int (x2 + 1)), (0, .ref (g.2.2 (101))), (1, .int (x1))]) X.1 X.2.1 (dk T_X11_remnants 53 rfl) hl (k := 2) rfl (icx ic_1) (Nat.le_of_ble_eq_true rfl) rfl (fun ls hl => ?_)
  refine lv_goto (tgt := 33) X.1 X.2.1 (dk T_X11_remnants 54 rfl) rfl ?_
  exact KB (x2 + 1) σ (Option.some.inj h).symm _ _ _ Y (lv_sub hl [1, 2, 0] rfl)
def f_X11_remnants_l33 (x1 : Int32) (z : Int32 × St) : Option ((Int32 × St) ⊕ (St)) :=
  (f_X11_cells x1 z.2).bind fun q5 => if q5 ≤ z.1 then some (.inr z.2) else (f_X11_isFree x1 z.1 z.2).bind fun q7 => if q7 = 0 then f_X11_remnants_j90 x1 z.1 z.2 else chk (inb z.1 100) (if (z.2 112 z.1.toNatClampNeg) = (-1) then chk (inb z.1 100) ((f_X11_grows x1 (up z.2 112 z.1.toNatClampNeg (z.2 101 17) 101 17) (up z.2 112 z.1.toNatClampNeg (z.2 101 17))).bind fun q12 => f_X11_remnants_j90 x1 z.1 (up q12 101 17 ((q12 101 17) + 1))) else f_X11_remnants_j90 x1 z.1 z.2)
set_option maxHeartbeats 4000000 in
set_option maxRecDepth 100000 in
theorem w_X11_remnants_l33 (X : Cx g RX11 cX11_remnants 3 none p s m args meth c) (x1 : Int32) (σ : St) {r : St} (KX0 : ∀ (v : St), r = v → ∀ (H : Heap) (locs : List Loc) (ls : Array Slot), Wd g s v H locs → lv_has ls 3 [] → W p l e (rmm 4 95) s m args below meth c H locs 0 0 Q (F0 m 96 ls [])) : ∀ (n : Nat) (z : Int32 × St) {H : Heap} {locs : List Loc} {ls : Array Slot}, Wd g s z.2 H locs → lv_has ls 3 [(0, .ref (g.2.2 (101))), (1, .int (x1)), (2, .int (z.1))] → lp (f_X11_remnants_l33 x1) n z = some r → W p l e (rmm 4 95) s m args below meth c H locs 0 0 Q (F0 m 33 ls []) := by
  intro n
  induction n with
  | zero => intro z H locs ls Y hl h; cases h
  | succ n ih =>
    intro z H locs ls Y hl h
    obtain ⟨w, h, hw⟩ := lps h
    have KB : ∀ (v0_ : Int32) (v1_ : St), w = .inl (v0_, v1_) → ∀ (H : Heap) (locs : List Loc) (ls : Array Slot), Wd g s v1_ H locs → lv_has ls 3 [(0, .ref (g.2.2 (101))), (1, .int (x1)), (2, .int (v0_))] → W p l e (rmm 4 95) s m args below meth c H locs 0 0 Q (F0 m 33 ls []) := fun v0_ v1_ e H locs ls Y hl => ih (v0_, v1_) Y hl (lpl hw e)
    have KX0 := fun (v : St) (e : w = .inr v) => KX0 v (lpr hw e)
    unfold f_X11_remnants_l33 at h
    refine lv_iload_n X.1 X.2.1 (dk T_X11_remnants 20 rfl) rfl (lv_at hl 2 rfl) ?_
    refine lv_aload_n X.1 X.2.1 (dk T_X11_remnants 21 rfl) rfl (lv_at hl 0 rfl) ?_
    refine lv_iload_n X.1 X.2.1 (dk T_X11_remnants 22 rfl) rfl (lv_at hl 1 rfl) ?_
    obtain ⟨q5, hq5, h⟩ := bs h
    refine gvI (rest := [.int (z.1)]) X Y (c_X11_cells x1 z.2 hq5) cb_X11_149 rfl hl.1 rfl rfl (Nat.le_of_ble_eq_true rfl) ⟨Nat.le_of_ble_eq_true rfl, Nat.le_of_ble_eq_true rfl⟩ (dk T_X11_remnants 23 rfl) (fun H locs Y => ?_)
    refine lv_icmp_ge (tgt := 96) X.1 X.2.1 (dk T_X11_remnants 24 rfl) rfl (fun c6 => ?_) (fun c6 => ?_)
    · replace h := ipos c6 h
      exact KX0 z.2 (Option.some.inj h).symm _ _ _ Y (lv_sub hl [] rfl)
    · replace h := ineg c6 h
      refine lv_aload_n X.1 X.2.1 (dk T_X11_remnants 25 rfl) rfl (lv_at hl 0 rfl) ?_
      refine lv_iload_n X.1 X.2.1 (dk T_X11_remnants 26 rfl) rfl (lv_at hl 1 rfl) ?_
      refine lv_iload_n X.1 X.2.1 (dk T_X11_remnants 27 rfl) rfl (lv_at hl 2 rfl) ?_
      obtain ⟨q7, hq7, h⟩ := bs h
      refine gvI (rest := []) X Y (c_X11_isFree x1 z.1 z.2 hq7) cb_X11_152 rfl hl.1 rfl rfl (Nat.le_of_ble_eq_true rfl) ⟨Nat.le_of_ble_eq_true rfl, Nat.le_of_ble_eq_true rfl⟩ (dk T_X11_remnants 28 rfl) (fun H locs Y => ?_)
      refine lv_if_eq (tgt := 90) X.1 X.2.1 (dk T_X11_remnants 29 rfl) rfl (fun c8 => ?_) (fun c8 => ?_)
      · replace h := ipos c8 h
        exact w_X11_remnants_j90 X x1 z.1 z.2 KB KX0 Y (lv_sub hl [0, 1, 2] rfl) h
      · replace h := ineg c8 h
        refine lv_aload_n X.1 X.2.1 (dk T_X11_remnants 30 rfl) rfl (lv_at hl 0 rfl) ?_
        refine gg X Y fl_X11_40 rfl rfl (dk T_X11_remnants 31 rfl) ?_
        refine lv_iload_n X.1 X.2.1 (dk T_X11_remnants 32 rfl) rfl (lv_at hl 2 rfl) ?_
        obtain ⟨g9, h⟩ := gd h
        refine gil X Y rfl (inp g9) (dk T_X11_remnants 33 rfl) ?_
        refine lv_iconst (v := (-1)) X.1 X.2.1 (dk T_X11_remnants 34 rfl) ic_m1 ?_
        refine lv_icmp_ne (tgt := 90) X.1 X.2.1 (dk T_X11_remnants 35 rfl) rfl (fun c10 => ?_) (fun c10 => ?_)
        · replace h := ineg c10 h
          exact w_X11_remnants_j90 X x1 z.1 z.2 KB KX0 Y (lv_sub hl [0, 1, 2] rfl) h
        · replace h := ipos c10 h
          refine lv_aload_n X.1 X.2.1 (dk T_X11_remnants 36 rfl) rfl (lv_at hl 0 rfl) ?_
          refine gg X Y fl_X11_40 rfl rfl (dk T_X11_remnants 37 rfl) ?_
          refine lv_iload_n X.1 X.2.1 (dk T_X11_remnants 38 rfl) rfl (lv_at hl 2 rfl) ?_
          refine lv_aload_n X.1 X.2.1 (dk T_X11_remnants 39 rfl) rfl (lv_at hl 0 rfl) ?_
          refine gg X Y fl_X11_165 rfl rfl (dk T_X11_remnants 40 rfl) ?_
          obtain ⟨g11, h⟩ := gd h
          refine gis X Y rfl (inp g11) (dk T_X11_remnants 41 rfl) (fun H locs Y => ?_)
          refine lv_aload_n X.1 X.2.1 (dk T_X11_remnants 42 rfl) rfl (lv_at hl 0 rfl) ?_
          refine lv_iload_n X.1 X.2.1 (dk T_X11_remnants 43 rfl) rfl (lv_at hl 1 rfl) ?_
          refine lv_aload_n X.1 X.2.1 (dk T_X11_remnants 44 rfl) rfl (lv_at hl 0 rfl) ?_
          refine gg X Y fl_X11_165 rfl rfl (dk T_X11_remnants 45 rfl) ?_
          obtain ⟨q12, hq12, h⟩ := bs h
          refine gvV (rest := []) X Y (c_X11_grows x1 (up z.2 112 z.1.toNatClampNeg (z.2 101 17) 101 17) (up z.2 112 z.1.toNatClampNeg (z.2 101 17)) hq12) cb_X11_168 rfl hl.1 rfl rfl (Nat.le_of_ble_eq_true rfl) ⟨Nat.le_of_ble_eq_true rfl, Nat.le_of_ble_eq_true rfl⟩ (dk T_X11_remnants 46 rfl) (fun H locs Y => ?_)
          refine lv_aload_n X.1 X.2.1 (dk T_X11_remnants 47 rfl) rfl (lv_at hl 0 rfl) ?_
          refine lv_dup X.1 X.2.1 (dk T_X11_remnants 48 rfl) rfl ?_
          refine gg X Y fl_X11_165 rfl rfl (dk T_X11_remnants 49 rfl) ?_
          refine lv_iconst (v := 1) X.1 X.2.1 (dk T_X11_remnants 50 rfl) ic_1 ?_
          refine lv_iadd X.1 X.2.1 (dk T_X11_remnants 51 rfl) ?_
          refine gp X Y fp_X11_165 rfl (nar_int _) (dk T_X11_remnants 52 rfl) (fun H locs Y => ?_)
          exact w_X11_remnants_j90 X x1 z.1 (up q12 101 17 ((q12 101 17) + 1)) KB KX0 Y (lv_sub hl [0, 1, 2] rfl) h
def f_X11_remnants_0 (x1 : Int32) (σ : St) : Option (St) :=
  (f_X11_looks x1 σ).bind fun q1 => (lp (f_X11_remnants_l12 x1) FU (0, up q1 101 17 0)).bind fun q4 => (lp (f_X11_remnants_l33 x1) FU (0, q4)).bind fun q13 => some q13
set_option maxHeartbeats 4000000 in
set_option maxRecDepth 100000 in
theorem w_X11_remnants_0 (X : Cx g RX11 cX11_remnants 3 none p s m args meth c) (x1 : Int32) (σ : St) {w : St} (KR : ∀ (H : Heap) (locs : List Loc) (ls : Array Slot) (pc : Nat), Wd g s w H locs → decode cX11_remnants pc = .ok (.return_, 1) → W p l e (rmm 4 95) s m args below meth c H locs 0 0 Q (F0 m pc ls [])) {H : Heap} {locs : List Loc} {ls : Array Slot} (Y : Wd g s σ H locs) (hl : lv_has ls 3 [(0, .ref (g.2.2 (101))), (1, .int (x1))]) (h : f_X11_remnants_0 x1 σ = some w) : W p l e (rmm 4 95) s m args below meth c H locs 0 0 Q (F0 m 0 ls []) := by
  unfold f_X11_remnants_0 at h
  refine lv_aload_n X.1 X.2.1 (dk T_X11_remnants 0 rfl) rfl (lv_at hl 0 rfl) ?_
  refine lv_iload_n X.1 X.2.1 (dk T_X11_remnants 1 rfl) rfl (lv_at hl 1 rfl) ?_
  obtain ⟨q1, hq1, h⟩ := bs h
  refine gvV (rest := []) X Y (c_X11_looks x1 σ hq1) cb_X11_145 rfl hl.1 rfl rfl (Nat.le_of_ble_eq_true rfl) ⟨Nat.le_of_ble_eq_true rfl, Nat.le_of_ble_eq_true rfl⟩ (dk T_X11_remnants 2 rfl) (fun H locs Y => ?_)
  refine lv_aload_n X.1 X.2.1 (dk T_X11_remnants 3 rfl) rfl (lv_at hl 0 rfl) ?_
  refine lv_iconst (v := 0) X.1 X.2.1 (dk T_X11_remnants 4 rfl) ic_0 ?_
  refine gp X Y fp_X11_165 rfl (nar_int _) (dk T_X11_remnants 5 rfl) (fun H locs Y => ?_)
  refine lv_iconst (v := 0) X.1 X.2.1 (dk T_X11_remnants 6 rfl) ic_0 ?_
  refine lv_istore_n (lv' := [(2, .int (0)), (0, .ref (g.2.2 (101))), (1, .int (x1))]) X.1 X.2.1 (dk T_X11_remnants 7 rfl) rfl hl (Nat.le_of_ble_eq_true rfl) rfl (fun ls hl => ?_)
  obtain ⟨q4, hq4, h⟩ := bs h
  refine w_X11_remnants_l12 X x1 σ (fun v e H locs ls Y hl => ?_) FU (0, up q1 101 17 0) Y (lv_sub hl [1, 2, 0] rfl) hq4
  · obtain rfl := e
    refine lv_iconst (v := 0) X.1 X.2.1 (dk T_X11_remnants 18 rfl) ic_0 ?_
    refine lv_istore_n (lv' := [(2, .int (0)), (0, .ref (g.2.2 (101))), (1, .int (x1))]) X.1 X.2.1 (dk T_X11_remnants 19 rfl) rfl hl (Nat.le_of_ble_eq_true rfl) rfl (fun ls hl => ?_)
    obtain ⟨q13, hq13, h⟩ := bs h
    refine w_X11_remnants_l33 X x1 σ (fun v e H locs ls Y hl => ?_) FU (0, q4) Y (lv_sub hl [1, 2, 0] rfl) hq13
    · obtain rfl := e
      obtain rfl := Option.some.inj h
      exact KR _ _ _ _ Y (dk T_X11_remnants 55 rfl)
def f_X11_remnants (x1 : Int32) (σ : St) : Option (St) := f_X11_remnants_0 x1 σ
set_option maxHeartbeats 4000000 in
set_option maxRecDepth 100000 in
theorem c_X11_remnants {l : Launch} {g : Geo} (x1 : Int32) (σ : St) {w : St} (h : f_X11_remnants x1 σ = some w) : CtV l yX11_remnants cX11_remnants 3 none (rmm 4 95) g [.ref (g.2.2 (101)), .int (x1)] σ w := enV (by decide) rfl (Nat.le_of_ble_eq_true rfl) (fun p e s m args below meth c Q X Y ls hl KR => w_X11_remnants_0 X x1 σ KR Y hl h)
def I_X11_partsOn : List (Nat × Instr × Nat) := [(0, .iconst 0, 1), (1, .istore_n 2, 1), (2, .iconst 0, 1), (3, .istore_n 3, 1), (4, .iload_n 3, 1), (5, .aload_n 0, 1), (6, .getfield 7, 3), (9, .iconst 2, 1), (10, .iaload, 1), (11, .if_icmp .ge 31, 3), (14, .iload_n 2, 1), (15, .aload_n 0, 1), (16, .getfield 7, 3), (19, .sipush 681, 3), (22, .iload_n 3, 1), (23, .iadd, 1), (24, .iaload, 1), (25, .iload_n 1, 1), (26, .if_icmp .ne 7, 3), (29, .iconst 1, 1), (30, .goto 4, 3), (33, .iconst 0, 1), (34, .iadd, 1), (35, .istore_n 2, 1), (36, .iinc 3 1, 3), (39, .goto (-35), 3), (42, .iload_n 2, 1), (43, .ireturn, 1)]
set_option maxRecDepth 100000 in
theorem T_X11_partsOn : ∀ q ∈ I_X11_partsOn, decode cX11_partsOn q.1 = .ok (q.2.1, q.2.2) := by decide +kernel
def f_X11_partsOn_j34 (x1 : Int32) (x3 : Int32) (s0 : Int32) (s1 : Int32) (σ : St) : Option ((Int32 × Int32) ⊕ (Int32)) :=
  some (.inl (s1 + s0, x3 + 1))
set_option maxHeartbeats 4000000 in
set_option maxRecDepth 100000 in
theorem w_X11_partsOn_j34 (X : Cx g RX11 cX11_partsOn 4 (some .int) p s m args meth c) (x1 : Int32) (x3 : Int32) (s0 : Int32) (s1 : Int32) (σ : St) {w : (Int32 × Int32) ⊕ (Int32)} (KB : ∀ (v0_ : Int32) (v1_ : Int32), w = .inl (v0_, v1_) → ∀ (H : Heap) (locs : List Loc) (ls : Array Slot), Wd g s σ H locs → lv_has ls 4 [(0, .ref (g.2.2 (101))), (1, .int (x1)), (2, .int (v0_)), (3, .int (v1_))] → W p l e (rmm 0 0) s m args below meth c H locs 0 0 Q (F0 m 4 ls [])) (KX0 : ∀ (v : Int32), w = .inr v → ∀ (H : Heap) (locs : List Loc) (ls : Array Slot), Wd g s σ H locs → lv_has ls 4 [(2, .int (v))] → W p l e (rmm 0 0) s m args below meth c H locs 0 0 Q (F0 m 42 ls [])) {H : Heap} {locs : List Loc} {ls : Array Slot} (Y : Wd g s σ H locs) (hl : lv_has ls 4 [(0, .ref (g.2.2 (101))), (1, .int (x1)), (3, .int (x3))]) (h : f_X11_partsOn_j34 x1 x3 s0 s1 σ = some w) : W p l e (rmm 0 0) s m args below meth c H locs 0 0 Q (F0 m 34 ls [.int (s0), .int (s1)]) := by
  unfold f_X11_partsOn_j34 at h
  refine lv_iadd X.1 X.2.1 (dk T_X11_partsOn 22 rfl) ?_
  refine lv_istore_n (lv' := [(2, .int (s1 + s0)), (0, .ref (g.2.2 (101))), (1, .int (x1)), (3, .int (x3))]) X.1 X.2.1 (dk T_X11_partsOn 23 rfl) rfl hl (Nat.le_of_ble_eq_true rfl) rfl (fun ls hl => ?_)
  refine lv_iinc (v := x3 + 1) (lv' := [(3, .int (x3 + 1)), (2, .int (s1 + s0)), (0, .ref (g.2.2 (101))), (1, .int (x1))]) X.1 X.2.1 (dk T_X11_partsOn 24 rfl) hl (k := 3) rfl (icx ic_1) (Nat.le_of_ble_eq_true rfl) rfl (fun ls hl => ?_)
  refine lv_goto (tgt := 4) X.1 X.2.1 (dk T_X11_partsOn 25 rfl) rfl ?_
  exact KB (s1 + s0) (x3 + 1) (Option.some.inj h).symm _ _ _ Y (lv_sub hl [2, 3, 1, 0] rfl)
def f_X11_partsOn_l4 (x1 : Int32) (σ : St) (z : Int32 × Int32) : Option ((Int32 × Int32) ⊕ (Int32)) :=
  chk (inb 2 761) (if (σ 102 (2 : Int32).toNatClampNeg) ≤ z.2 then some (.inr z.1) else chk (inb (681 + z.2) 761) (if (σ 102 (681 + z.2).toNatClampNeg) = x1 then f_X11_partsOn_j34 x1 z.2 1 z.1 σ else f_X11_partsOn_j34 x1 z.2 0 z.1 σ))
set_option maxHeartbeats 4000000 in
set_option maxRecDepth 100000 in
theorem w_X11_partsOn_l4 (X : Cx g RX11 cX11_partsOn 4 (some .int) p s m args meth c) (x1 : Int32) (σ : St) {r : Int32} (KX0 : ∀ (v : Int32), r = v → ∀ (H : Heap) (locs : List Loc) (ls : Array Slot), Wd g s σ H locs → lv_has ls 4 [(2, .int (v))] → W p l e (rmm 0 0) s m args below meth c H locs 0 0 Q (F0 m 42 ls [])) : ∀ (n : Nat) (z : Int32 × Int32) {H : Heap} {locs : List Loc} {ls : Array Slot}, Wd g s σ H locs → lv_has ls 4 [(0, .ref (g.2.2 (101))), (1, .int (x1)), (2, .int (z.1)), (3, .int (z.2))] → lp (f_X11_partsOn_l4 x1 σ) n z = some r → W p l e (rmm 0 0) s m args below meth c H locs 0 0 Q (F0 m 4 ls []) := by
  intro n
  induction n with
  | zero => intro z H locs ls Y hl h; cases h
  | succ n ih =>
    intro z H locs ls Y hl h
    obtain ⟨w, h, hw⟩ := lps h
    have KB : ∀ (v0_ : Int32) (v1_ : Int32), w = .inl (v0_, v1_) → ∀ (H : Heap) (locs : List Loc) (ls : Array Slot), Wd g s σ H locs → lv_has ls 4 [(0, .ref (g.2.2 (101))), (1, .int (x1)), (2, .int (v0_)), (3, .int (v1_))] → W p l e (rmm 0 0) s m args below meth c H locs 0 0 Q (F0 m 4 ls []) := fun v0_ v1_ e H locs ls Y hl => ih (v0_, v1_) Y hl (lpl hw e)
    have KX0 := fun (v : Int32) (e : w = .inr v) => KX0 v (lpr hw e)
    unfold f_X11_partsOn_l4 at h
    refine lv_iload_n X.1 X.2.1 (dk T_X11_partsOn 4 rfl) rfl (lv_at hl 3 rfl) ?_
    refine lv_aload_n X.1 X.2.1 (dk T_X11_partsOn 5 rfl) rfl (lv_at hl 0 rfl) ?_
    refine gg X Y fl_X11_7 rfl rfl (dk T_X11_partsOn 6 rfl) ?_
    refine lv_iconst (v := 2) X.1 X.2.1 (dk T_X11_partsOn 7 rfl) ic_2 ?_
    obtain ⟨g1, h⟩ := gd h
    refine gil X Y rfl (inp g1) (dk T_X11_partsOn 8 rfl) ?_
    refine lv_icmp_ge (tgt := 42) X.1 X.2.1 (dk T_X11_partsOn 9 rfl) rfl (fun c2 => ?_) (fun c2 => ?_)
    · replace h := ipos c2 h
      exact KX0 z.1 (Option.some.inj h).symm _ _ _ Y (lv_sub hl [2] rfl)
    · replace h := ineg c2 h
      refine lv_iload_n X.1 X.2.1 (dk T_X11_partsOn 10 rfl) rfl (lv_at hl 2 rfl) ?_
      refine lv_aload_n X.1 X.2.1 (dk T_X11_partsOn 11 rfl) rfl (lv_at hl 0 rfl) ?_
      refine gg X Y fl_X11_7 rfl rfl (dk T_X11_partsOn 12 rfl) ?_
      refine lv_sipush (v := 681) X.1 X.2.1 (dk T_X11_partsOn 13 rfl) sp_681 ?_
      refine lv_iload_n X.1 X.2.1 (dk T_X11_partsOn 14 rfl) rfl (lv_at hl 3 rfl) ?_
      refine lv_iadd X.1 X.2.1 (dk T_X11_partsOn 15 rfl) ?_
      obtain ⟨g3, h⟩ := gd h
      refine gil X Y rfl (inp g3) (dk T_X11_partsOn 16 rfl) ?_
      refine lv_iload_n X.1 X.2.1 (dk T_X11_partsOn 17 rfl) rfl (lv_at hl 1 rfl) ?_
      refine lv_icmp_ne (tgt := 33) X.1 X.2.1 (dk T_X11_partsOn 18 rfl) rfl (fun c4 => ?_) (fun c4 => ?_)
      · replace h := ineg c4 h
        refine lv_iconst (v := 0) X.1 X.2.1 (dk T_X11_partsOn 21 rfl) ic_0 ?_
        exact w_X11_partsOn_j34 X x1 z.2 0 z.1 σ KB KX0 Y (lv_sub hl [0, 1, 3] rfl) h
      · replace h := ipos c4 h
        refine lv_iconst (v := 1) X.1 X.2.1 (dk T_X11_partsOn 19 rfl) ic_1 ?_
        refine lv_goto (tgt := 34) X.1 X.2.1 (dk T_X11_partsOn 20 rfl) rfl ?_
        exact w_X11_partsOn_j34 X x1 z.2 1 z.1 σ KB KX0 Y (lv_sub hl [0, 1, 3] rfl) h
def f_X11_partsOn_0 (x1 : Int32) (σ : St) : Option (Int32) :=
  (lp (f_X11_partsOn_l4 x1 σ) FU (0, 0)).bind fun q5 => some q5
set_option maxHeartbeats 4000000 in
set_option maxRecDepth 100000 in
theorem w_X11_partsOn_0 (X : Cx g RX11 cX11_partsOn 4 (some .int) p s m args meth c) (x1 : Int32) (σ : St) {w : Int32} (KR : ∀ (H : Heap) (locs : List Loc) (ls : Array Slot) (pc : Nat), Wd g s σ H locs → decode cX11_partsOn pc = .ok (.ireturn, 1) → W p l e (rmm 0 0) s m args below meth c H locs 0 0 Q (F0 m pc ls [.int (w)])) {H : Heap} {locs : List Loc} {ls : Array Slot} (Y : Wd g s σ H locs) (hl : lv_has ls 4 [(0, .ref (g.2.2 (101))), (1, .int (x1))]) (h : f_X11_partsOn_0 x1 σ = some w) : W p l e (rmm 0 0) s m args below meth c H locs 0 0 Q (F0 m 0 ls []) := by
  unfold f_X11_partsOn_0 at h
  refine lv_iconst (v := 0) X.1 X.2.1 (dk T_X11_partsOn 0 rfl) ic_0 ?_
  refine lv_istore_n (lv' := [(2, .int (0)), (0, .ref (g.2.2 (101))), (1, .int (x1))]) X.1 X.2.1 (dk T_X11_partsOn 1 rfl) rfl hl (Nat.le_of_ble_eq_true rfl) rfl (fun ls hl => ?_)
  refine lv_iconst (v := 0) X.1 X.2.1 (dk T_X11_partsOn 2 rfl) ic_0 ?_
  refine lv_istore_n (lv' := [(3, .int (0)), (2, .int (0)), (0, .ref (g.2.2 (101))), (1, .int (x1))]) X.1 X.2.1 (dk T_X11_partsOn 3 rfl) rfl hl (Nat.le_of_ble_eq_true rfl) rfl (fun ls hl => ?_)
  obtain ⟨q5, hq5, h⟩ := bs h
  refine w_X11_partsOn_l4 X x1 σ (fun v e H locs ls Y hl => ?_) FU (0, 0) Y (lv_sub hl [2, 3, 1, 0] rfl) hq5
  · obtain rfl := e
    refine lv_iload_n X.1 X.2.1 (dk T_X11_partsOn 26 rfl) rfl (lv_at hl 0 rfl) ?_
    obtain rfl := Option.some.inj h
    exact KR _ _ _ _ Y (dk T_X11_partsOn 27 rfl)
def f_X11_partsOn (x1 : Int32) (σ : St) : Option (Int32) := f_X11_partsOn_0 x1 σ
set_option maxHeartbeats 4000000 in
set_option maxRecDepth 100000 in
theorem c_X11_partsOn {l : Launch} {g : Geo} (x1 : Int32) (σ : St) {w : Int32} (h : f_X11_partsOn x1 σ = some w) : CtI l yX11_partsOn cX11_partsOn 4 (some .int) (rmm 0 0) g [.ref (g.2.2 (101)), .int (x1)] σ w σ := enI .int (by decide) rfl rfl (Nat.le_of_ble_eq_true rfl) (fun p e s m args below meth c Q X Y ls hl KR => w_X11_partsOn_0 X x1 σ KR Y hl h)
def I_X11_isBorder : List (Nat × Instr × Nat) := [(0, .iload_n 0, 1), (1, .iload_n 1, 1), (2, .if_icmp .eq 7, 3), (5, .iconst 1, 1), (6, .goto 4, 3), (9, .iconst 0, 1), (10, .ireturn, 1)]
set_option maxRecDepth 100000 in
theorem T_X11_isBorder : ∀ q ∈ I_X11_isBorder, decode cX11_isBorder q.1 = .ok (q.2.1, q.2.2) := by decide +kernel
def f_X11_isBorder_0 (x0 : Int32) (x1 : Int32) : Option (Int32) :=
  if x0 = x1 then some 0 else some 1
set_option maxHeartbeats 4000000 in
set_option maxRecDepth 100000 in
theorem w_X11_isBorder_0 (X : Cx g RX11 cX11_isBorder 2 (some .boolean) p s m args meth c) (x0 : Int32) (x1 : Int32) (σ : St) {w : Int32} (KR : ∀ (H : Heap) (locs : List Loc) (ls : Array Slot) (pc : Nat), Wd g s σ H locs → decode cX11_isBorder pc = .ok (.ireturn, 1) → W p l e (rmm 0 0) s m args below meth c H locs 0 0 Q (F0 m pc ls [.int (w)])) {H : Heap} {locs : List Loc} {ls : Array Slot} (Y : Wd g s σ H locs) (hl : lv_has ls 2 [(0, .int (x0)), (1, .int (x1))]) (h : f_X11_isBorder_0 x0 x1 = some w) : W p l e (rmm 0 0) s m args below meth c H locs 0 0 Q (F0 m 0 ls []) := by
  unfold f_X11_isBorder_0 at h
  refine lv_iload_n X.1 X.2.1 (dk T_X11_isBorder 0 rfl) rfl (lv_at hl 0 rfl) ?_
  refine lv_iload_n X.1 X.2.1 (dk T_X11_isBorder 1 rfl) rfl (lv_at hl 1 rfl) ?_
  refine lv_icmp_eq (tgt := 9) X.1 X.2.1 (dk T_X11_isBorder 2 rfl) rfl (fun c1 => ?_) (fun c1 => ?_)
  · replace h := ipos c1 h
    refine lv_iconst (v := 0) X.1 X.2.1 (dk T_X11_isBorder 5 rfl) ic_0 ?_
    obtain rfl := Option.some.inj h
    exact KR _ _ _ _ Y (dk T_X11_isBorder 6 rfl)
  · replace h := ineg c1 h
    refine lv_iconst (v := 1) X.1 X.2.1 (dk T_X11_isBorder 3 rfl) ic_1 ?_
    refine lv_goto (tgt := 10) X.1 X.2.1 (dk T_X11_isBorder 4 rfl) rfl ?_
    obtain rfl := Option.some.inj h
    exact KR _ _ _ _ Y (dk T_X11_isBorder 6 rfl)
def f_X11_isBorder (x0 : Int32) (x1 : Int32) : Option (Int32) := bz (f_X11_isBorder_0 x0 x1)
set_option maxHeartbeats 4000000 in
set_option maxRecDepth 100000 in
theorem c_X11_isBorder {l : Launch} {g : Geo} (x0 : Int32) (x1 : Int32) (σ : St) {w : Int32} (h : f_X11_isBorder x0 x1 = some w) : CtI l yX11_isBorder cX11_isBorder 2 (some .boolean) (rmm 0 0) g [.int (x0), .int (x1)] σ w σ := by
  obtain ⟨h, hz⟩ := bz_s h
  exact enI .boolean (by decide) rfl (bz_n hz) (Nat.le_of_ble_eq_true rfl) (fun p e s m args below meth c Q X Y ls hl KR => w_X11_isBorder_0 X x0 x1 σ KR Y hl h)
def I_X11_cutsOf : List (Nat × Instr × Nat) := [(0, .aload_n 0, 1), (1, .iload_n 1, 1), (2, .invokevirtual 145, 3), (5, .aload_n 0, 1), (6, .getfield 7, 3), (9, .iconst 3, 1), (10, .iload_n 1, 1), (11, .iadd, 1), (12, .iaload, 1), (13, .istore 4, 2), (15, .iconst 0, 1), (16, .istore 5, 2), (18, .iconst 0, 1), (19, .istore 6, 2), (21, .iload 6, 2), (23, .aload_n 0, 1), (24, .iload_n 1, 1), (25, .invokevirtual 149, 3), (28, .if_icmp .ge 185, 3), (31, .iconst 0, 1), (32, .istore 7, 2), (34, .iload 7, 2), (36, .iconst 2, 1), (37, .if_icmp .ge 170, 3), (40, .iload 7, 2), (42, .ifCond .ne 10, 3), (45, .iload 6, 2), (47, .iconst 1, 1), (48, .iadd, 1), (49, .goto 8, 3), (52, .iload 6, 2), (54, .iload 4, 2), (56, .iadd, 1), (57, .istore 8, 2), (59, .iload 7, 2), (61, .ifCond .ne 21, 3), (64, .iload 6, 2), (66, .iconst 1, 1), (67, .iadd, 1), (68, .iload 4, 2), (70, .irem, 1), (71, .ifCond .eq 7, 3), (74, .iconst 1, 1), (75, .goto 22, 3), (78, .iconst 0, 1), (79, .goto 18, 3), (82, .iload 8, 2), (84, .aload_n 0, 1), (85, .iload_n 1, 1), (86, .invokevirtual 149, 3), (89, .if_icmp .ge 7, 3), (92, .iconst 1, 1), (93, .goto 4, 3), (96, .iconst 0, 1), (97, .istore 9, 2), (99, .aload_n 0, 1), (100, .getfield 37, 3), (103, .iload 6, 2), (105, .iaload, 1), (106, .istore 10, 2), (108, .iload 9, 2), (110, .ifCond .eq 13, 3), (113, .aload_n 0, 1), (114, .getfield 37, 3), (117, .iload 8, 2), (119, .iaload, 1), (120, .goto 5, 3), (123, .iload 10, 2), (125, .istore 11, 2), (127, .iload_n 2, 1), (128, .ifCond .eq 23, 3), (131, .iload 10, 2), (133, .iconst (-1), 1), (134, .if_icmp .eq 13, 3), (137, .iload 11, 2), (139, .iconst (-1), 1), (140, .if_icmp .eq 7, 3), (143, .iconst 1, 1), (144, .goto 8, 3), (147, .iconst 0, 1), (148, .goto 4, 3), (151, .iconst 1, 1), (152, .istore 12, 2), (154, .iload 5, 2), (156, .iload 9, 2), (158, .ifCond .eq 39, 3), (161, .iload 10, 2), (163, .iload 11, 2), (165, .invokestatic 162, 3), (168, .ifCond .eq 29, 3), (171, .iload 12, 2), (173, .ifCond .eq 24, 3), (176, .iload_n 3, 1), (177, .iconst (-1), 1), (178, .if_icmp .eq 15, 3), (181, .iload 10, 2), (183, .iload_n 3, 1), (184, .if_icmp .eq 9, 3), (187, .iload 11, 2), (189, .iload_n 3, 1), (190, .if_icmp .ne 7, 3), (193, .iconst 1, 1), (194, .goto 4, 3), (197, .iconst 0, 1), (198, .iadd, 1), (199, .istore 5, 2), (201, .iinc 7 1, 3), (204, .goto (-170), 3), (207, .iinc 6 1, 3), (210, .goto (-189), 3), (213, .iload 5, 2), (215, .ireturn, 1)]
set_option maxRecDepth 100000 in
theorem T_X11_cutsOf : ∀ q ∈ I_X11_cutsOf, decode cX11_cutsOf q.1 = .ok (q.2.1, q.2.2) := by decide +kernel
def f_X11_cutsOf_j198 (x1 : Int32) (x2 : Int32) (x3 : Int32) (x4 : Int32) (x6 : Int32) (x7 : Int32) (s0 : Int32) (s1 : Int32) (σ : St) : Option ((Int32 × Int32) ⊕ (Int32)) :=
  some (.inl (s1 + s0, x7 + 1))
set_option maxHeartbeats 4000000 in
set_option maxRecDepth 100000 in
theorem w_X11_cutsOf_j198 (X : Cx g RX11 cX11_cutsOf 13 (some .int) p s m args meth c) (x1 : Int32) (x2 : Int32) (x3 : Int32) (x4 : Int32) (x6 : Int32) (x7 : Int32) (s0 : Int32) (s1 : Int32) (σ : St) {w : (Int32 × Int32) ⊕ (Int32)} (KB : ∀ (v0_ : Int32) (v1_ : Int32), w = .inl (v0_, v1_) → ∀ (H : Heap) (locs : List Loc) (ls : Array Slot), Wd g s σ H locs → lv_has ls 13 [(0, .ref (g.2.2 (101))), (1, .int (x1)), (2, .int (x2)), (3, .int (x3)), (4, .int (x4)), (5, .int (v0_)), (6, .int (x6)), (7, .int (v1_))] → W p l e (rmm 4 95) s m args below meth c H locs 0 0 Q (F0 m 34 ls [])) (KX0 : ∀ (v : Int32), w = .inr v → ∀ (H : Heap) (locs : List Loc) (ls : Array Slot), Wd g s σ H locs → lv_has ls 13 [(0, .ref (g.2.2 (101))), (1, .int (x1)), (2, .int (x2)), (3, .int (x3)), (4, .int (x4)), (5, .int (v)), (6, .int (x6))] → W p l e (rmm 4 95) s m args below meth c H locs 0 0 Q (F0 m 207 ls [])) {H : Heap} {locs : List Loc} {ls : Array Slot} (Y : Wd g s σ H locs) (hl : lv_has ls 13 [(0, .ref (g.2.2 (101))), (1, .int (x1)), (2, .int (x2)), (3, .int (x3)), (4, .int (x4)), (6, .int (x6)), (7, .int (x7))]) (h : f_X11_cutsOf_j198 x1 x2 x3 x4 x6 x7 s0 s1 σ = some w) : W p l e (rmm 4 95) s m args below meth c H locs 0 0 Q (F0 m 198 ls [.int (s0), .int (s1)]) := by
  unfold f_X11_cutsOf_j198 at h
  refine lv_iadd X.1 X.2.1 (dk T_X11_cutsOf 104 rfl) ?_
  refine lv_istore (lv' := [(5, .int (s1 + s0)), (0, .ref (g.2.2 (101))), (1, .int (x1)), (2, .int (x2)), (3, .int (x3)), (4, .int (x4)), (6, .int (x6)), (7, .int (x7))]) X.1 X.2.1 (dk T_X11_cutsOf 105 rfl) hl (Nat.le_of_ble_eq_true rfl) rfl (fun ls hl => ?_)
  refine lv_iinc (v := x7 + 1) (lv' := [(7, .int (x7 + 1)), (5, .int (s1 + s0)), (0, .ref (g.2.2 (101))), (1, .int (x1)), (2, .int (x2)), (3, .int (x3)), (4, .int (x4)), (6, .int (x6))]) X.1 X.2.1 (dk T_X11_cutsOf 106 rfl) hl (k := 7) rfl (icx ic_1) (Nat.le_of_ble_eq_true rfl) rfl (fun ls hl => ?_)
  refine lv_goto (tgt := 34) X.1 X.2.1 (dk T_X11_cutsOf 107 rfl) rfl ?_
  exact KB (s1 + s0) (x7 + 1) (Option.some.inj h).symm _ _ _ Y (lv_sub hl [2, 3, 4, 5, 6, 1, 7, 0] rfl)
def f_X11_cutsOf_j197 (x1 : Int32) (x2 : Int32) (x3 : Int32) (x4 : Int32) (x6 : Int32) (x7 : Int32) (s0 : Int32) (σ : St) : Option ((Int32 × Int32) ⊕ (Int32)) :=
  f_X11_cutsOf_j198 x1 x2 x3 x4 x6 x7 0 s0 σ
set_option maxHeartbeats 4000000 in
set_option maxRecDepth 100000 in
theorem w_X11_cutsOf_j197 (X : Cx g RX11 cX11_cutsOf 13 (some .int) p s m args meth c) (x1 : Int32) (x2 : Int32) (x3 : Int32) (x4 : Int32) (x6 : Int32) (x7 : Int32) (s0 : Int32) (σ : St) {w : (Int32 × Int32) ⊕ (Int32)} (KB : ∀ (v0_ : Int32) (v1_ : Int32), w = .inl (v0_, v1_) → ∀ (H : Heap) (locs : List Loc) (ls : Array Slot), Wd g s σ H locs → lv_has ls 13 [(0, .ref (g.2.2 (101))), (1, .int (x1)), (2, .int (x2)), (3, .int (x3)), (4, .int (x4)), (5, .int (v0_)), (6, .int (x6)), (7, .int (v1_))] → W p l e (rmm 4 95) s m args below meth c H locs 0 0 Q (F0 m 34 ls [])) (KX0 : ∀ (v : Int32), w = .inr v → ∀ (H : Heap) (locs : List Loc) (ls : Array Slot), Wd g s σ H locs → lv_has ls 13 [(0, .ref (g.2.2 (101))), (1, .int (x1)), (2, .int (x2)), (3, .int (x3)), (4, .int (x4)), (5, .int (v)), (6, .int (x6))] → W p l e (rmm 4 95) s m args below meth c H locs 0 0 Q (F0 m 207 ls [])) {H : Heap} {locs : List Loc} {ls : Array Slot} (Y : Wd g s σ H locs) (hl : lv_has ls 13 [(0, .ref (g.2.2 (101))), (1, .int (x1)), (2, .int (x2)), (3, .int (x3)), (4, .int (x4)), (6, .int (x6)), (7, .int (x7))]) (h : f_X11_cutsOf_j197 x1 x2 x3 x4 x6 x7 s0 σ = some w) : W p l e (rmm 4 95) s m args below meth c H locs 0 0 Q (F0 m 197 ls [.int (s0)]) := by
  unfold f_X11_cutsOf_j197 at h
  refine lv_iconst (v := 0) X.1 X.2.1 (dk T_X11_cutsOf 103 rfl) ic_0 ?_
  exact w_X11_cutsOf_j198 X x1 x2 x3 x4 x6 x7 0 s0 σ KB KX0 Y (lv_sub hl [0, 1, 2, 3, 4, 5, 6] rfl) h
def f_X11_cutsOf_j193 (x1 : Int32) (x2 : Int32) (x3 : Int32) (x4 : Int32) (x6 : Int32) (x7 : Int32) (s0 : Int32) (σ : St) : Option ((Int32 × Int32) ⊕ (Int32)) :=
  f_X11_cutsOf_j198 x1 x2 x3 x4 x6 x7 1 s0 σ
set_option maxHeartbeats 4000000 in
set_option maxRecDepth 100000 in
theorem w_X11_cutsOf_j193 (X : Cx g RX11 cX11_cutsOf 13 (some .int) p s m args meth c) (x1 : Int32) (x2 : Int32) (x3 : Int32) (x4 : Int32) (x6 : Int32) (x7 : Int32) (s0 : Int32) (σ : St) {w : (Int32 × Int32) ⊕ (Int32)} (KB : ∀ (v0_ : Int32) (v1_ : Int32), w = .inl (v0_, v1_) → ∀ (H : Heap) (locs : List Loc) (ls : Array Slot), Wd g s σ H locs → lv_has ls 13 [(0, .ref (g.2.2 (101))), (1, .int (x1)), (2, .int (x2)), (3, .int (x3)), (4, .int (x4)), (5, .int (v0_)), (6, .int (x6)), (7, .int (v1_))] → W p l e (rmm 4 95) s m args below meth c H locs 0 0 Q (F0 m 34 ls [])) (KX0 : ∀ (v : Int32), w = .inr v → ∀ (H : Heap) (locs : List Loc) (ls : Array Slot), Wd g s σ H locs → lv_has ls 13 [(0, .ref (g.2.2 (101))), (1, .int (x1)), (2, .int (x2)), (3, .int (x3)), (4, .int (x4)), (5, .int (v)), (6, .int (x6))] → W p l e (rmm 4 95) s m args below meth c H locs 0 0 Q (F0 m 207 ls [])) {H : Heap} {locs : List Loc} {ls : Array Slot} (Y : Wd g s σ H locs) (hl : lv_has ls 13 [(0, .ref (g.2.2 (101))), (1, .int (x1)), (2, .int (x2)), (3, .int (x3)), (4, .int (x4)), (6, .int (x6)), (7, .int (x7))]) (h : f_X11_cutsOf_j193 x1 x2 x3 x4 x6 x7 s0 σ = some w) : W p l e (rmm 4 95) s m args below meth c H locs 0 0 Q (F0 m 193 ls [.int (s0)]) := by
  unfold f_X11_cutsOf_j193 at h
  refine lv_iconst (v := 1) X.1 X.2.1 (dk T_X11_cutsOf 101 rfl) ic_1 ?_
  refine lv_goto (tgt := 198) X.1 X.2.1 (dk T_X11_cutsOf 102 rfl) rfl ?_
  exact w_X11_cutsOf_j198 X x1 x2 x3 x4 x6 x7 1 s0 σ KB KX0 Y (lv_sub hl [0, 1, 2, 3, 4, 5, 6] rfl) h
def f_X11_cutsOf_j152 (x1 : Int32) (x2 : Int32) (x3 : Int32) (x4 : Int32) (x5 : Int32) (x6 : Int32) (x7 : Int32) (x9 : Int32) (x10 : Int32) (x11 : Int32) (s0 : Int32) (σ : St) : Option ((Int32 × Int32) ⊕ (Int32)) :=
  if x9 = 0 then f_X11_cutsOf_j197 x1 x2 x3 x4 x6 x7 x5 σ else (f_X11_isBorder x10 x11).bind fun q14 => if q14 = 0 then f_X11_cutsOf_j197 x1 x2 x3 x4 x6 x7 x5 σ else if s0 = 0 then f_X11_cutsOf_j197 x1 x2 x3 x4 x6 x7 x5 σ else if x3 = (-1) then f_X11_cutsOf_j193 x1 x2 x3 x4 x6 x7 x5 σ else if x10 = x3 then f_X11_cutsOf_j193 x1 x2 x3 x4 x6 x7 x5 σ else if x11 = x3 then f_X11_cutsOf_j193 x1 x2 x3 x4 x6 x7 x5 σ else f_X11_cutsOf_j197 x1 x2 x3 x4 x6 x7 x5 σ
set_option maxHeartbeats 4000000 in
set_option maxRecDepth 100000 in
theorem w_X11_cutsOf_j152 (X : Cx g RX11 cX11_cutsOf 13 (some .int) p s m args meth c) (x1 : Int32) (x2 : Int32) (x3 : Int32) (x4 : Int32) (x5 : Int32) (x6 : Int32) (x7 : Int32) (x9 : Int32) (x10 : Int32) (x11 : Int32) (s0 : Int32) (σ : St) {w : (Int32 × Int32) ⊕ (Int32)} (KB : ∀ (v0_ : Int32) (v1_ : Int32), w = .inl (v0_, v1_) → ∀ (H : Heap) (locs : List Loc) (ls : Array Slot), Wd g s σ H locs → lv_has ls 13 [(0, .ref (g.2.2 (101))), (1, .int (x1)), (2, .int (x2)), (3, .int (x3)), (4, .int (x4)), (5, .int (v0_)), (6, .int (x6)), (7, .int (v1_))] → W p l e (rmm 4 95) s m args below meth c H locs 0 0 Q (F0 m 34 ls [])) (KX0 : ∀ (v : Int32), w = .inr v → ∀ (H : Heap) (locs : List Loc) (ls : Array Slot), Wd g s σ H locs → lv_has ls 13 [(0, .ref (g.2.2 (101))), (1, .int (x1)), (2, .int (x2)), (3, .int (x3)), (4, .int (x4)), (5, .int (v)), (6, .int (x6))] → W p l e (rmm 4 95) s m args below meth c H locs 0 0 Q (F0 m 207 ls [])) {H : Heap} {locs : List Loc} {ls : Array Slot} (Y : Wd g s σ H locs) (hl : lv_has ls 13 [(0, .ref (g.2.2 (101))), (1, .int (x1)), (2, .int (x2)), (3, .int (x3)), (4, .int (x4)), (5, .int (x5)), (6, .int (x6)), (7, .int (x7)), (9, .int (x9)), (10, .int (x10)), (11, .int (x11))]) (h : f_X11_cutsOf_j152 x1 x2 x3 x4 x5 x6 x7 x9 x10 x11 s0 σ = some w) : W p l e (rmm 4 95) s m args below meth c H locs 0 0 Q (F0 m 152 ls [.int (s0)]) := by
  unfold f_X11_cutsOf_j152 at h
  refine lv_istore (lv' := [(12, .int (s0)), (0, .ref (g.2.2 (101))), (1, .int (x1)), (2, .int (x2)), (3, .int (x3)), (4, .int (x4)), (5, .int (x5)), (6, .int (x6)), (7, .int (x7)), (9, .int (x9)), (10, .int (x10)), (11, .int (x11))]) X.1 X.2.1 (dk T_X11_cutsOf 82 rfl) hl (Nat.le_of_ble_eq_true rfl) rfl (fun ls hl => ?_)
  refine lv_iload X.1 X.2.1 (dk T_X11_cutsOf 83 rfl) (lv_at hl 6 rfl) ?_
  refine lv_iload X.1 X.2.1 (dk T_X11_cutsOf 84 rfl) (lv_at hl 9 rfl) ?_
  refine lv_if_eq (tgt := 197) X.1 X.2.1 (dk T_X11_cutsOf 85 rfl) rfl (fun c13 => ?_) (fun c13 => ?_)
  · replace h := ipos c13 h
    exact w_X11_cutsOf_j197 X x1 x2 x3 x4 x6 x7 x5 σ KB KX0 Y (lv_sub hl [1, 2, 3, 4, 5, 7, 8] rfl) h
  · replace h := ineg c13 h
    refine lv_iload X.1 X.2.1 (dk T_X11_cutsOf 86 rfl) (lv_at hl 10 rfl) ?_
    refine lv_iload X.1 X.2.1 (dk T_X11_cutsOf 87 rfl) (lv_at hl 11 rfl) ?_
    obtain ⟨q14, hq14, h⟩ := bs h
    refine gsI (rest := [.int (x5)]) X Y (c_X11_isBorder x10 x11 σ hq14) cb_X11_162 hl.1 rfl rfl (Nat.le_of_ble_eq_true rfl) ⟨Nat.le_of_ble_eq_true rfl, Nat.le_of_ble_eq_true rfl⟩ (dk T_X11_cutsOf 88 rfl) (fun H locs Y => ?_)
    refine lv_if_eq (tgt := 197) X.1 X.2.1 (dk T_X11_cutsOf 89 rfl) rfl (fun c15 => ?_) (fun c15 => ?_)
    · replace h := ipos c15 h
      exact w_X11_cutsOf_j197 X x1 x2 x3 x4 x6 x7 x5 σ KB KX0 Y (lv_sub hl [1, 2, 3, 4, 5, 7, 8] rfl) h
    · replace h := ineg c15 h
      refine lv_iload X.1 X.2.1 (dk T_X11_cutsOf 90 rfl) (lv_at hl 0 rfl) ?_
      refine lv_if_eq (tgt := 197) X.1 X.2.1 (dk T_X11_cutsOf 91 rfl) rfl (fun c16 => ?_) (fun c16 => ?_)
      · replace h := ipos c16 h
        exact w_X11_cutsOf_j197 X x1 x2 x3 x4 x6 x7 x5 σ KB KX0 Y (lv_sub hl [1, 2, 3, 4, 5, 7, 8] rfl) h
      · replace h := ineg c16 h
        refine lv_iload_n X.1 X.2.1 (dk T_X11_cutsOf 92 rfl) rfl (lv_at hl 4 rfl) ?_
        refine lv_iconst (v := (-1)) X.1 X.2.1 (dk T_X11_cutsOf 93 rfl) ic_m1 ?_
        refine lv_icmp_eq (tgt := 193) X.1 X.2.1 (dk T_X11_cutsOf 94 rfl) rfl (fun c17 => ?_) (fun c17 => ?_)
        · replace h := ipos c17 h
          exact w_X11_cutsOf_j193 X x1 x2 x3 x4 x6 x7 x5 σ KB KX0 Y (lv_sub hl [1, 2, 3, 4, 5, 7, 8] rfl) h
        · replace h := ineg c17 h
          refine lv_iload X.1 X.2.1 (dk T_X11_cutsOf 95 rfl) (lv_at hl 10 rfl) ?_
          refine lv_iload_n X.1 X.2.1 (dk T_X11_cutsOf 96 rfl) rfl (lv_at hl 4 rfl) ?_
          refine lv_icmp_eq (tgt := 193) X.1 X.2.1 (dk T_X11_cutsOf 97 rfl) rfl (fun c18 => ?_) (fun c18 => ?_)
          · replace h := ipos c18 h
            exact w_X11_cutsOf_j193 X x1 x2 x3 x4 x6 x7 x5 σ KB KX0 Y (lv_sub hl [1, 2, 3, 4, 5, 7, 8] rfl) h
          · replace h := ineg c18 h
            refine lv_iload X.1 X.2.1 (dk T_X11_cutsOf 98 rfl) (lv_at hl 11 rfl) ?_
            refine lv_iload_n X.1 X.2.1 (dk T_X11_cutsOf 99 rfl) rfl (lv_at hl 4 rfl) ?_
            refine lv_icmp_ne (tgt := 197) X.1 X.2.1 (dk T_X11_cutsOf 100 rfl) rfl (fun c19 => ?_) (fun c19 => ?_)
            · replace h := ineg c19 h
              exact w_X11_cutsOf_j197 X x1 x2 x3 x4 x6 x7 x5 σ KB KX0 Y (lv_sub hl [1, 2, 3, 4, 5, 7, 8] rfl) h
            · replace h := ipos c19 h
              exact w_X11_cutsOf_j193 X x1 x2 x3 x4 x6 x7 x5 σ KB KX0 Y (lv_sub hl [1, 2, 3, 4, 5, 7, 8] rfl) h
def f_X11_cutsOf_j147 (x1 : Int32) (x2 : Int32) (x3 : Int32) (x4 : Int32) (x5 : Int32) (x6 : Int32) (x7 : Int32) (x9 : Int32) (x10 : Int32) (x11 : Int32) (σ : St) : Option ((Int32 × Int32) ⊕ (Int32)) :=
  f_X11_cutsOf_j152 x1 x2 x3 x4 x5 x6 x7 x9 x10 x11 0 σ
set_option maxHeartbeats 4000000 in
set_option maxRecDepth 100000 in
theorem w_X11_cutsOf_j147 (X : Cx g RX11 cX11_cutsOf 13 (some .int) p s m args meth c) (x1 : Int32) (x2 : Int32) (x3 : Int32) (x4 : Int32) (x5 : Int32) (x6 : Int32) (x7 : Int32) (x9 : Int32) (x10 : Int32) (x11 : Int32) (σ : St) {w : (Int32 × Int32) ⊕ (Int32)} (KB : ∀ (v0_ : Int32) (v1_ : Int32), w = .inl (v0_, v1_) → ∀ (H : Heap) (locs : List Loc) (ls : Array Slot), Wd g s σ H locs → lv_has ls 13 [(0, .ref (g.2.2 (101))), (1, .int (x1)), (2, .int (x2)), (3, .int (x3)), (4, .int (x4)), (5, .int (v0_)), (6, .int (x6)), (7, .int (v1_))] → W p l e (rmm 4 95) s m args below meth c H locs 0 0 Q (F0 m 34 ls [])) (KX0 : ∀ (v : Int32), w = .inr v → ∀ (H : Heap) (locs : List Loc) (ls : Array Slot), Wd g s σ H locs → lv_has ls 13 [(0, .ref (g.2.2 (101))), (1, .int (x1)), (2, .int (x2)), (3, .int (x3)), (4, .int (x4)), (5, .int (v)), (6, .int (x6))] → W p l e (rmm 4 95) s m args below meth c H locs 0 0 Q (F0 m 207 ls [])) {H : Heap} {locs : List Loc} {ls : Array Slot} (Y : Wd g s σ H locs) (hl : lv_has ls 13 [(0, .ref (g.2.2 (101))), (1, .int (x1)), (2, .int (x2)), (3, .int (x3)), (4, .int (x4)), (5, .int (x5)), (6, .int (x6)), (7, .int (x7)), (9, .int (x9)), (10, .int (x10)), (11, .int (x11))]) (h : f_X11_cutsOf_j147 x1 x2 x3 x4 x5 x6 x7 x9 x10 x11 σ = some w) : W p l e (rmm 4 95) s m args below meth c H locs 0 0 Q (F0 m 147 ls []) := by
  unfold f_X11_cutsOf_j147 at h
  refine lv_iconst (v := 0) X.1 X.2.1 (dk T_X11_cutsOf 79 rfl) ic_0 ?_
  refine lv_goto (tgt := 152) X.1 X.2.1 (dk T_X11_cutsOf 80 rfl) rfl ?_
  exact w_X11_cutsOf_j152 X x1 x2 x3 x4 x5 x6 x7 x9 x10 x11 0 σ KB KX0 Y (lv_sub hl [0, 1, 2, 3, 4, 5, 6, 7, 8, 9, 10] rfl) h
def f_X11_cutsOf_j125 (x1 : Int32) (x2 : Int32) (x3 : Int32) (x4 : Int32) (x5 : Int32) (x6 : Int32) (x7 : Int32) (x9 : Int32) (x10 : Int32) (s0 : Int32) (σ : St) : Option ((Int32 × Int32) ⊕ (Int32)) :=
  if x2 = 0 then f_X11_cutsOf_j152 x1 x2 x3 x4 x5 x6 x7 x9 x10 s0 1 σ else if x10 = (-1) then f_X11_cutsOf_j147 x1 x2 x3 x4 x5 x6 x7 x9 x10 s0 σ else if s0 = (-1) then f_X11_cutsOf_j147 x1 x2 x3 x4 x5 x6 x7 x9 x10 s0 σ else f_X11_cutsOf_j152 x1 x2 x3 x4 x5 x6 x7 x9 x10 s0 1 σ
set_option maxHeartbeats 4000000 in
set_option maxRecDepth 100000 in
theorem w_X11_cutsOf_j125 (X : Cx g RX11 cX11_cutsOf 13 (some .int) p s m args meth c) (x1 : Int32) (x2 : Int32) (x3 : Int32) (x4 : Int32) (x5 : Int32) (x6 : Int32) (x7 : Int32) (x9 : Int32) (x10 : Int32) (s0 : Int32) (σ : St) {w : (Int32 × Int32) ⊕ (Int32)} (KB : ∀ (v0_ : Int32) (v1_ : Int32), w = .inl (v0_, v1_) → ∀ (H : Heap) (locs : List Loc) (ls : Array Slot), Wd g s σ H locs → lv_has ls 13 [(0, .ref (g.2.2 (101))), (1, .int (x1)), (2, .int (x2)), (3, .int (x3)), (4, .int (x4)), (5, .int (v0_)), (6, .int (x6)), (7, .int (v1_))] → W p l e (rmm 4 95) s m args below meth c H locs 0 0 Q (F0 m 34 ls [])) (KX0 : ∀ (v : Int32), w = .inr v → ∀ (H : Heap) (locs : List Loc) (ls : Array Slot), Wd g s σ H locs → lv_has ls 13 [(0, .ref (g.2.2 (101))), (1, .int (x1)), (2, .int (x2)), (3, .int (x3)), (4, .int (x4)), (5, .int (v)), (6, .int (x6))] → W p l e (rmm 4 95) s m args below meth c H locs 0 0 Q (F0 m 207 ls [])) {H : Heap} {locs : List Loc} {ls : Array Slot} (Y : Wd g s σ H locs) (hl : lv_has ls 13 [(0, .ref (g.2.2 (101))), (1, .int (x1)), (2, .int (x2)), (3, .int (x3)), (4, .int (x4)), (5, .int (x5)), (6, .int (x6)), (7, .int (x7)), (9, .int (x9)), (10, .int (x10))]) (h : f_X11_cutsOf_j125 x1 x2 x3 x4 x5 x6 x7 x9 x10 s0 σ = some w) : W p l e (rmm 4 95) s m args below meth c H locs 0 0 Q (F0 m 125 ls [.int (s0)]) := by
  unfold f_X11_cutsOf_j125 at h
  refine lv_istore (lv' := [(11, .int (s0)), (0, .ref (g.2.2 (101))), (1, .int (x1)), (2, .int (x2)), (3, .int (x3)), (4, .int (x4)), (5, .int (x5)), (6, .int (x6)), (7, .int (x7)), (9, .int (x9)), (10, .int (x10))]) X.1 X.2.1 (dk T_X11_cutsOf 68 rfl) hl (Nat.le_of_ble_eq_true rfl) rfl (fun ls hl => ?_)
  refine lv_iload_n X.1 X.2.1 (dk T_X11_cutsOf 69 rfl) rfl (lv_at hl 3 rfl) ?_
  refine lv_if_eq (tgt := 151) X.1 X.2.1 (dk T_X11_cutsOf 70 rfl) rfl (fun c12 => ?_) (fun c12 => ?_)
  · replace h := ipos c12 h
    refine lv_iconst (v := 1) X.1 X.2.1 (dk T_X11_cutsOf 81 rfl) ic_1 ?_
    exact w_X11_cutsOf_j152 X x1 x2 x3 x4 x5 x6 x7 x9 x10 s0 1 σ KB KX0 Y (lv_sub hl [1, 2, 3, 4, 5, 6, 7, 8, 9, 10, 0] rfl) h
  · replace h := ineg c12 h
    refine lv_iload X.1 X.2.1 (dk T_X11_cutsOf 71 rfl) (lv_at hl 10 rfl) ?_
    refine lv_iconst (v := (-1)) X.1 X.2.1 (dk T_X11_cutsOf 72 rfl) ic_m1 ?_
    refine lv_icmp_eq (tgt := 147) X.1 X.2.1 (dk T_X11_cutsOf 73 rfl) rfl (fun c20 => ?_) (fun c20 => ?_)
    · replace h := ipos c20 h
      exact w_X11_cutsOf_j147 X x1 x2 x3 x4 x5 x6 x7 x9 x10 s0 σ KB KX0 Y (lv_sub hl [1, 2, 3, 4, 5, 6, 7, 8, 9, 10, 0] rfl) h
    · replace h := ineg c20 h
      refine lv_iload X.1 X.2.1 (dk T_X11_cutsOf 74 rfl) (lv_at hl 0 rfl) ?_
      refine lv_iconst (v := (-1)) X.1 X.2.1 (dk T_X11_cutsOf 75 rfl) ic_m1 ?_
      refine lv_icmp_eq (tgt := 147) X.1 X.2.1 (dk T_X11_cutsOf 76 rfl) rfl (fun c21 => ?_) (fun c21 => ?_)
      · replace h := ipos c21 h
        exact w_X11_cutsOf_j147 X x1 x2 x3 x4 x5 x6 x7 x9 x10 s0 σ KB KX0 Y (lv_sub hl [1, 2, 3, 4, 5, 6, 7, 8, 9, 10, 0] rfl) h
      · replace h := ineg c21 h
        refine lv_iconst (v := 1) X.1 X.2.1 (dk T_X11_cutsOf 77 rfl) ic_1 ?_
        refine lv_goto (tgt := 152) X.1 X.2.1 (dk T_X11_cutsOf 78 rfl) rfl ?_
        exact w_X11_cutsOf_j152 X x1 x2 x3 x4 x5 x6 x7 x9 x10 s0 1 σ KB KX0 Y (lv_sub hl [1, 2, 3, 4, 5, 6, 7, 8, 9, 10, 0] rfl) h
def f_X11_cutsOf_j97 (x1 : Int32) (x2 : Int32) (x3 : Int32) (x4 : Int32) (x5 : Int32) (x6 : Int32) (x7 : Int32) (x8 : Int32) (s0 : Int32) (σ : St) : Option ((Int32 × Int32) ⊕ (Int32)) :=
  chk (inb x6 100) (if s0 = 0 then f_X11_cutsOf_j125 x1 x2 x3 x4 x5 x6 x7 s0 (σ 111 x6.toNatClampNeg) (σ 111 x6.toNatClampNeg) σ else chk (inb x8 100) (f_X11_cutsOf_j125 x1 x2 x3 x4 x5 x6 x7 s0 (σ 111 x6.toNatClampNeg) (σ 111 x8.toNatClampNeg) σ))
set_option maxHeartbeats 4000000 in
set_option maxRecDepth 100000 in
theorem w_X11_cutsOf_j97 (X : Cx g RX11 cX11_cutsOf 13 (some .int) p s m args meth c) (x1 : Int32) (x2 : Int32) (x3 : Int32) (x4 : Int32) (x5 : Int32) (x6 : Int32) (x7 : Int32) (x8 : Int32) (s0 : Int32) (σ : St) {w : (Int32 × Int32) ⊕ (Int32)} (KB : ∀ (v0_ : Int32) (v1_ : Int32), w = .inl (v0_, v1_) → ∀ (H : Heap) (locs : List Loc) (ls : Array Slot), Wd g s σ H locs → lv_has ls 13 [(0, .ref (g.2.2 (101))), (1, .int (x1)), (2, .int (x2)), (3, .int (x3)), (4, .int (x4)), (5, .int (v0_)), (6, .int (x6)), (7, .int (v1_))] → W p l e (rmm 4 95) s m args below meth c H locs 0 0 Q (F0 m 34 ls [])) (KX0 : ∀ (v : Int32), w = .inr v → ∀ (H : Heap) (locs : List Loc) (ls : Array Slot), Wd g s σ H locs → lv_has ls 13 [(0, .ref (g.2.2 (101))), (1, .int (x1)), (2, .int (x2)), (3, .int (x3)), (4, .int (x4)), (5, .int (v)), (6, .int (x6))] → W p l e (rmm 4 95) s m args below meth c H locs 0 0 Q (F0 m 207 ls [])) {H : Heap} {locs : List Loc} {ls : Array Slot} (Y : Wd g s σ H locs) (hl : lv_has ls 13 [(0, .ref (g.2.2 (101))), (1, .int (x1)), (2, .int (x2)), (3, .int (x3)), (4, .int (x4)), (5, .int (x5)), (6, .int (x6)), (7, .int (x7)), (8, .int (x8))]) (h : f_X11_cutsOf_j97 x1 x2 x3 x4 x5 x6 x7 x8 s0 σ = some w) : W p l e (rmm 4 95) s m args below meth c H locs 0 0 Q (F0 m 97 ls [.int (s0)]) := by
  unfold f_X11_cutsOf_j97 at h
  refine lv_istore (lv' := [(9, .int (s0)), (0, .ref (g.2.2 (101))), (1, .int (x1)), (2, .int (x2)), (3, .int (x3)), (4, .int (x4)), (5, .int (x5)), (6, .int (x6)), (7, .int (x7)), (8, .int (x8))]) X.1 X.2.1 (dk T_X11_cutsOf 54 rfl) hl (Nat.le_of_ble_eq_true rfl) rfl (fun ls hl => ?_)
  refine lv_aload_n X.1 X.2.1 (dk T_X11_cutsOf 55 rfl) rfl (lv_at hl 1 rfl) ?_
  refine gg X Y fl_X11_37 rfl rfl (dk T_X11_cutsOf 56 rfl) ?_
  refine lv_iload X.1 X.2.1 (dk T_X11_cutsOf 57 rfl) (lv_at hl 7 rfl) ?_
  obtain ⟨g10, h⟩ := gd h
  refine gil X Y rfl (inp g10) (dk T_X11_cutsOf 58 rfl) ?_
  refine lv_istore (lv' := [(10, .int (σ 111 x6.toNatClampNeg)), (9, .int (s0)), (0, .ref (g.2.2 (101))), (1, .int (x1)), (2, .int (x2)), (3, .int (x3)), (4, .int (x4)), (5, .int (x5)), (6, .int (x6)), (7, .int (x7)), (8, .int (x8))]) X.1 X.2.1 (dk T_X11_cutsOf 59 rfl) hl (Nat.le_of_ble_eq_true rfl) rfl (fun ls hl => ?_)
  refine lv_iload X.1 X.2.1 (dk T_X11_cutsOf 60 rfl) (lv_at hl 1 rfl) ?_
  refine lv_if_eq (tgt := 123) X.1 X.2.1 (dk T_X11_cutsOf 61 rfl) rfl (fun c11 => ?_) (fun c11 => ?_)
  · replace h := ipos c11 h
    refine lv_iload X.1 X.2.1 (dk T_X11_cutsOf 67 rfl) (lv_at hl 0 rfl) ?_
    exact w_X11_cutsOf_j125 X x1 x2 x3 x4 x5 x6 x7 s0 (σ 111 x6.toNatClampNeg) (σ 111 x6.toNatClampNeg) σ KB KX0 Y (lv_sub hl [2, 3, 4, 5, 6, 7, 8, 9, 1, 0] rfl) h
  · replace h := ineg c11 h
    refine lv_aload_n X.1 X.2.1 (dk T_X11_cutsOf 62 rfl) rfl (lv_at hl 2 rfl) ?_
    refine gg X Y fl_X11_37 rfl rfl (dk T_X11_cutsOf 63 rfl) ?_
    refine lv_iload X.1 X.2.1 (dk T_X11_cutsOf 64 rfl) (lv_at hl 10 rfl) ?_
    obtain ⟨g22, h⟩ := gd h
    refine gil X Y rfl (inp g22) (dk T_X11_cutsOf 65 rfl) ?_
    refine lv_goto (tgt := 125) X.1 X.2.1 (dk T_X11_cutsOf 66 rfl) rfl ?_
    exact w_X11_cutsOf_j125 X x1 x2 x3 x4 x5 x6 x7 s0 (σ 111 x6.toNatClampNeg) (σ 111 x8.toNatClampNeg) σ KB KX0 Y (lv_sub hl [2, 3, 4, 5, 6, 7, 8, 9, 1, 0] rfl) h
def f_X11_cutsOf_j57 (x1 : Int32) (x2 : Int32) (x3 : Int32) (x4 : Int32) (x5 : Int32) (x6 : Int32) (x7 : Int32) (s0 : Int32) (σ : St) : Option ((Int32 × Int32) ⊕ (Int32)) :=
  if x7 = 0 then chk (nz x4) (if ((x6 + 1) - (x6 + 1) / x4 * x4) = 0 then f_X11_cutsOf_j97 x1 x2 x3 x4 x5 x6 x7 s0 0 σ else f_X11_cutsOf_j97 x1 x2 x3 x4 x5 x6 x7 s0 1 σ) else (f_X11_cells x1 σ).bind fun q8 => if q8 ≤ s0 then f_X11_cutsOf_j97 x1 x2 x3 x4 x5 x6 x7 s0 0 σ else f_X11_cutsOf_j97 x1 x2 x3 x4 x5 x6 x7 s0 1 σ
set_option maxHeartbeats 4000000 in
set_option maxRecDepth 100000 in
theorem w_X11_cutsOf_j57 (X : Cx g RX11 cX11_cutsOf 13 (some .int) p s m args meth c) (x1 : Int32) (x2 : Int32) (x3 : Int32) (x4 : Int32) (x5 : Int32) (x6 : Int32) (x7 : Int32) (s0 : Int32) (σ : St) {w : (Int32 × Int32) ⊕ (Int32)} (KB : ∀ (v0_ : Int32) (v1_ : Int32), w = .inl (v0_, v1_) → ∀ (H : Heap) (locs : List Loc) (ls : Array Slot), Wd g s σ H locs → lv_has ls 13 [(0, .ref (g.2.2 (101))), (1, .int (x1)), (2, .int (x2)), (3, .int (x3)), (4, .int (x4)), (5, .int (v0_)), (6, .int (x6)), (7, .int (v1_))] → W p l e (rmm 4 95) s m args below meth c H locs 0 0 Q (F0 m 34 ls [])) (KX0 : ∀ (v : Int32), w = .inr v → ∀ (H : Heap) (locs : List Loc) (ls : Array Slot), Wd g s σ H locs → lv_has ls 13 [(0, .ref (g.2.2 (101))), (1, .int (x1)), (2, .int (x2)), (3, .int (x3)), (4, .int (x4)), (5, .int (v)), (6, .int (x6))] → W p l e (rmm 4 95) s m args below meth c H locs 0 0 Q (F0 m 207 ls [])) {H : Heap} {locs : List Loc} {ls : Array Slot} (Y : Wd g s σ H locs) (hl : lv_has ls 13 [(0, .ref (g.2.2 (101))), (1, .int (x1)), (2, .int (x2)), (3, .int (x3)), (4, .int (x4)), (5, .int (x5)), (6, .int (x6)), (7, .int (x7))]) (h : f_X11_cutsOf_j57 x1 x2 x3 x4 x5 x6 x7 s0 σ = some w) : W p l e (rmm 4 95) s m args below meth c H locs 0 0 Q (F0 m 57 ls [.int (s0)]) := by
  unfold f_X11_cutsOf_j57 at h
  refine lv_istore (lv' := [(8, .int (s0)), (0, .ref (g.2.2 (101))), (1, .int (x1)), (2, .int (x2)), (3, .int (x3)), (4, .int (x4)), (5, .int (x5)), (6, .int (x6)), (7, .int (x7))]) X.1 X.2.1 (dk T_X11_cutsOf 33 rfl) hl (Nat.le_of_ble_eq_true rfl) rfl (fun ls hl => ?_)
  refine lv_iload X.1 X.2.1 (dk T_X11_cutsOf 34 rfl) (lv_at hl 8 rfl) ?_
  refine lv_if_ne (tgt := 82) X.1 X.2.1 (dk T_X11_cutsOf 35 rfl) rfl (fun c7 => ?_) (fun c7 => ?_)
  · replace h := ineg c7 h
    refine lv_iload X.1 X.2.1 (dk T_X11_cutsOf 46 rfl) (lv_at hl 0 rfl) ?_
    refine lv_aload_n X.1 X.2.1 (dk T_X11_cutsOf 47 rfl) rfl (lv_at hl 1 rfl) ?_
    refine lv_iload_n X.1 X.2.1 (dk T_X11_cutsOf 48 rfl) rfl (lv_at hl 2 rfl) ?_
    obtain ⟨q8, hq8, h⟩ := bs h
    refine gvI (rest := [.int (s0)]) X Y (c_X11_cells x1 σ hq8) cb_X11_149 rfl hl.1 rfl rfl (Nat.le_of_ble_eq_true rfl) ⟨Nat.le_of_ble_eq_true rfl, Nat.le_of_ble_eq_true rfl⟩ (dk T_X11_cutsOf 49 rfl) (fun H locs Y => ?_)
    refine lv_icmp_ge (tgt := 96) X.1 X.2.1 (dk T_X11_cutsOf 50 rfl) rfl (fun c9 => ?_) (fun c9 => ?_)
    · replace h := ipos c9 h
      refine lv_iconst (v := 0) X.1 X.2.1 (dk T_X11_cutsOf 53 rfl) ic_0 ?_
      exact w_X11_cutsOf_j97 X x1 x2 x3 x4 x5 x6 x7 s0 0 σ KB KX0 Y (lv_sub hl [1, 2, 3, 4, 5, 6, 7, 8, 0] rfl) h
    · replace h := ineg c9 h
      refine lv_iconst (v := 1) X.1 X.2.1 (dk T_X11_cutsOf 51 rfl) ic_1 ?_
      refine lv_goto (tgt := 97) X.1 X.2.1 (dk T_X11_cutsOf 52 rfl) rfl ?_
      exact w_X11_cutsOf_j97 X x1 x2 x3 x4 x5 x6 x7 s0 1 σ KB KX0 Y (lv_sub hl [1, 2, 3, 4, 5, 6, 7, 8, 0] rfl) h
  · replace h := ipos c7 h
    refine lv_iload X.1 X.2.1 (dk T_X11_cutsOf 36 rfl) (lv_at hl 7 rfl) ?_
    refine lv_iconst (v := 1) X.1 X.2.1 (dk T_X11_cutsOf 37 rfl) ic_1 ?_
    refine lv_iadd X.1 X.2.1 (dk T_X11_cutsOf 38 rfl) ?_
    refine lv_iload X.1 X.2.1 (dk T_X11_cutsOf 39 rfl) (lv_at hl 5 rfl) ?_
    obtain ⟨g23, h⟩ := gd h
    refine lv_irem X.1 X.2.1 (dk T_X11_cutsOf 40 rfl) (nzp g23) ?_
    refine lv_if_eq (tgt := 78) X.1 X.2.1 (dk T_X11_cutsOf 41 rfl) rfl (fun c24 => ?_) (fun c24 => ?_)
    · replace h := ipos c24 h
      refine lv_iconst (v := 0) X.1 X.2.1 (dk T_X11_cutsOf 44 rfl) ic_0 ?_
      refine lv_goto (tgt := 97) X.1 X.2.1 (dk T_X11_cutsOf 45 rfl) rfl ?_
      exact w_X11_cutsOf_j97 X x1 x2 x3 x4 x5 x6 x7 s0 0 σ KB KX0 Y (lv_sub hl [1, 2, 3, 4, 5, 6, 7, 8, 0] rfl) h
    · replace h := ineg c24 h
      refine lv_iconst (v := 1) X.1 X.2.1 (dk T_X11_cutsOf 42 rfl) ic_1 ?_
      refine lv_goto (tgt := 97) X.1 X.2.1 (dk T_X11_cutsOf 43 rfl) rfl ?_
      exact w_X11_cutsOf_j97 X x1 x2 x3 x4 x5 x6 x7 s0 1 σ KB KX0 Y (lv_sub hl [1, 2, 3, 4, 5, 6, 7, 8, 0] rfl) h
def f_X11_cutsOf_l34 (x1 : Int32) (x2 : Int32) (x3 : Int32) (x4 : Int32) (x6 : Int32) (σ : St) (z : Int32 × Int32) : Option ((Int32 × Int32) ⊕ (Int32)) :=
  if 2 ≤ z.2 then some (.inr z.1) else if z.2 = 0 then f_X11_cutsOf_j57 x1 x2 x3 x4 z.1 x6 z.2 (x6 + 1) σ else f_X11_cutsOf_j57 x1 x2 x3 x4 z.1 x6 z.2 (x6 + x4) σ
set_option maxHeartbeats 4000000 in
set_option maxRecDepth 100000 in
theorem w_X11_cutsOf_l34 (X : Cx g RX11 cX11_cutsOf 13 (some .int) p s m args meth c) (x1 : Int32) (x2 : Int32) (x3 : Int32) (x4 : Int32) (x6 : Int32) (σ : St) {r : Int32} (KX0 : ∀ (v : Int32), r = v → ∀ (H : Heap) (locs : List Loc) (ls : Array Slot), Wd g s σ H locs → lv_has ls 13 [(0, .ref (g.2.2 (101))), (1, .int (x1)), (2, .int (x2)), (3, .int (x3)), (4, .int (x4)), (5, .int (v)), (6, .int (x6))] → W p l e (rmm 4 95) s m args below meth c H locs 0 0 Q (F0 m 207 ls [])) : ∀ (n : Nat) (z : Int32 × Int32) {H : Heap} {locs : List Loc} {ls : Array Slot}, Wd g s σ H locs → lv_has ls 13 [(0, .ref (g.2.2 (101))), (1, .int (x1)), (2, .int (x2)), (3, .int (x3)), (4, .int (x4)), (5, .int (z.1)), (6, .int (x6)), (7, .int (z.2))] → lp (f_X11_cutsOf_l34 x1 x2 x3 x4 x6 σ) n z = some r → W p l e (rmm 4 95) s m args below meth c H locs 0 0 Q (F0 m 34 ls []) := by
  intro n
  induction n with
  | zero => intro z H locs ls Y hl h; cases h
  | succ n ih =>
    intro z H locs ls Y hl h
    obtain ⟨w, h, hw⟩ := lps h
    have KB : ∀ (v0_ : Int32) (v1_ : Int32), w = .inl (v0_, v1_) → ∀ (H : Heap) (locs : List Loc) (ls : Array Slot), Wd g s σ H locs → lv_has ls 13 [(0, .ref (g.2.2 (101))), (1, .int (x1)), (2, .int (x2)), (3, .int (x3)), (4, .int (x4)), (5, .int (v0_)), (6, .int (x6)), (7, .int (v1_))] → W p l e (rmm 4 95) s m args below meth c H locs 0 0 Q (F0 m 34 ls []) := fun v0_ v1_ e H locs ls Y hl => ih (v0_, v1_) Y hl (lpl hw e)
    have KX0 := fun (v : Int32) (e : w = .inr v) => KX0 v (lpr hw e)
    unfold f_X11_cutsOf_l34 at h
    refine lv_iload X.1 X.2.1 (dk T_X11_cutsOf 21 rfl) (lv_at hl 7 rfl) ?_
    refine lv_iconst (v := 2) X.1 X.2.1 (dk T_X11_cutsOf 22 rfl) ic_2 ?_
    refine lv_icmp_ge (tgt := 207) X.1 X.2.1 (dk T_X11_cutsOf 23 rfl) rfl (fun c5 => ?_) (fun c5 => ?_)
    · replace h := ipos c5 h
      exact KX0 z.1 (Option.some.inj h).symm _ _ _ Y (lv_sub hl [0, 1, 2, 3, 4, 5, 6] rfl)
    · replace h := ineg c5 h
      refine lv_iload X.1 X.2.1 (dk T_X11_cutsOf 24 rfl) (lv_at hl 7 rfl) ?_
      refine lv_if_ne (tgt := 52) X.1 X.2.1 (dk T_X11_cutsOf 25 rfl) rfl (fun c6 => ?_) (fun c6 => ?_)
      · replace h := ineg c6 h
        refine lv_iload X.1 X.2.1 (dk T_X11_cutsOf 30 rfl) (lv_at hl 6 rfl) ?_
        refine lv_iload X.1 X.2.1 (dk T_X11_cutsOf 31 rfl) (lv_at hl 4 rfl) ?_
        refine lv_iadd X.1 X.2.1 (dk T_X11_cutsOf 32 rfl) ?_
        exact w_X11_cutsOf_j57 X x1 x2 x3 x4 z.1 x6 z.2 (x6 + x4) σ KB KX0 Y (lv_sub hl [0, 1, 2, 3, 4, 5, 6, 7] rfl) h
      · replace h := ipos c6 h
        refine lv_iload X.1 X.2.1 (dk T_X11_cutsOf 26 rfl) (lv_at hl 6 rfl) ?_
        refine lv_iconst (v := 1) X.1 X.2.1 (dk T_X11_cutsOf 27 rfl) ic_1 ?_
        refine lv_iadd X.1 X.2.1 (dk T_X11_cutsOf 28 rfl) ?_
        refine lv_goto (tgt := 57) X.1 X.2.1 (dk T_X11_cutsOf 29 rfl) rfl ?_
        exact w_X11_cutsOf_j57 X x1 x2 x3 x4 z.1 x6 z.2 (x6 + 1) σ KB KX0 Y (lv_sub hl [0, 1, 2, 3, 4, 5, 6, 7] rfl) h
def f_X11_cutsOf_l21 (x1 : Int32) (x2 : Int32) (x3 : Int32) (x4 : Int32) (σ : St) (z : Int32 × Int32) : Option ((Int32 × Int32) ⊕ (Int32)) :=
  (f_X11_cells x1 σ).bind fun q3 => if q3 ≤ z.2 then some (.inr z.1) else (lp (f_X11_cutsOf_l34 x1 x2 x3 x4 z.2 σ) FU (z.1, 0)).bind fun q25 => some (.inl (q25, z.2 + 1))
set_option maxHeartbeats 4000000 in
set_option maxRecDepth 100000 in
theorem w_X11_cutsOf_l21 (X : Cx g RX11 cX11_cutsOf 13 (some .int) p s m args meth c) (x1 : Int32) (x2 : Int32) (x3 : Int32) (x4 : Int32) (σ : St) {r : Int32} (KX0 : ∀ (v : Int32), r = v → ∀ (H : Heap) (locs : List Loc) (ls : Array Slot), Wd g s σ H locs → lv_has ls 13 [(5, .int (v))] → W p l e (rmm 4 95) s m args below meth c H locs 0 0 Q (F0 m 213 ls [])) : ∀ (n : Nat) (z : Int32 × Int32) {H : Heap} {locs : List Loc} {ls : Array Slot}, Wd g s σ H locs → lv_has ls 13 [(0, .ref (g.2.2 (101))), (1, .int (x1)), (2, .int (x2)), (3, .int (x3)), (4, .int (x4)), (5, .int (z.1)), (6, .int (z.2))] → lp (f_X11_cutsOf_l21 x1 x2 x3 x4 σ) n z = some r → W p l e (rmm 4 95) s m args below meth c H locs 0 0 Q (F0 m 21 ls []) := by
  intro n
  induction n with
  | zero => intro z H locs ls Y hl h; cases h
  | succ n ih =>
    intro z H locs ls Y hl h
    obtain ⟨w, h, hw⟩ := lps h
    have KB : ∀ (v0_ : Int32) (v1_ : Int32), w = .inl (v0_, v1_) → ∀ (H : Heap) (locs : List Loc) (ls : Array Slot), Wd g s σ H locs → lv_has ls 13 [(0, .ref (g.2.2 (101))), (1, .int (x1)), (2, .int (x2)), (3, .int (x3)), (4, .int (x4)), (5, .int (v0_)), (6, .int (v1_))] → W p l e (rmm 4 95) s m args below meth c H locs 0 0 Q (F0 m 21 ls []) := fun v0_ v1_ e H locs ls Y hl => ih (v0_, v1_) Y hl (lpl hw e)
    have KX0 := fun (v : Int32) (e : w = .inr v) => KX0 v (lpr hw e)
    unfold f_X11_cutsOf_l21 at h
    refine lv_iload X.1 X.2.1 (dk T_X11_cutsOf 14 rfl) (lv_at hl 6 rfl) ?_
    refine lv_aload_n X.1 X.2.1 (dk T_X11_cutsOf 15 rfl) rfl (lv_at hl 0 rfl) ?_
    refine lv_iload_n X.1 X.2.1 (dk T_X11_cutsOf 16 rfl) rfl (lv_at hl 1 rfl) ?_
    obtain ⟨q3, hq3, h⟩ := bs h
    refine gvI (rest := [.int (z.2)]) X Y (c_X11_cells x1 σ hq3) cb_X11_149 rfl hl.1 rfl rfl (Nat.le_of_ble_eq_true rfl) ⟨Nat.le_of_ble_eq_true rfl, Nat.le_of_ble_eq_true rfl⟩ (dk T_X11_cutsOf 17 rfl) (fun H locs Y => ?_)
    refine lv_icmp_ge (tgt := 213) X.1 X.2.1 (dk T_X11_cutsOf 18 rfl) rfl (fun c4 => ?_) (fun c4 => ?_)
    · replace h := ipos c4 h
      exact KX0 z.1 (Option.some.inj h).symm _ _ _ Y (lv_sub hl [5] rfl)
    · replace h := ineg c4 h
      refine lv_iconst (v := 0) X.1 X.2.1 (dk T_X11_cutsOf 19 rfl) ic_0 ?_
      refine lv_istore (lv' := [(7, .int (0)), (0, .ref (g.2.2 (101))), (1, .int (x1)), (2, .int (x2)), (3, .int (x3)), (4, .int (x4)), (5, .int (z.1)), (6, .int (z.2))]) X.1 X.2.1 (dk T_X11_cutsOf 20 rfl) hl (Nat.le_of_ble_eq_true rfl) rfl (fun ls hl => ?_)
      obtain ⟨q25, hq25, h⟩ := bs h
      refine w_X11_cutsOf_l34 X x1 x2 x3 x4 z.2 σ (fun v e H locs ls Y hl => ?_) FU (z.1, 0) Y (lv_sub hl [1, 2, 3, 4, 5, 6, 7, 0] rfl) hq25
      · obtain rfl := e
        refine lv_iinc (v := z.2 + 1) (lv' := [(6, .int (z.2 + 1)), (0, .ref (g.2.2 (101))), (1, .int (x1)), (2, .int (x2)), (3, .int (x3)), (4, .int (x4)), (5, .int (q25))]) X.1 X.2.1 (dk T_X11_cutsOf 108 rfl) hl (k := 6) rfl (icx ic_1) (Nat.le_of_ble_eq_true rfl) rfl (fun ls hl => ?_)
        refine lv_goto (tgt := 21) X.1 X.2.1 (dk T_X11_cutsOf 109 rfl) rfl ?_
        exact KB q25 (z.2 + 1) (Option.some.inj h).symm _ _ _ Y (lv_sub hl [1, 2, 3, 4, 5, 6, 0] rfl)
def f_X11_cutsOf_0 (x1 : Int32) (x2 : Int32) (x3 : Int32) (σ : St) : Option (Int32 × St) :=
  (f_X11_looks x1 σ).bind fun q1 => chk (inb (3 + x1) 761) ((lp (f_X11_cutsOf_l21 x1 x2 x3 (q1 102 (3 + x1).toNatClampNeg) q1) FU (0, 0)).bind fun q26 => some (q26, q1))
set_option maxHeartbeats 4000000 in
set_option maxRecDepth 100000 in
theorem w_X11_cutsOf_0 (X : Cx g RX11 cX11_cutsOf 13 (some .int) p s m args meth c) (x1 : Int32) (x2 : Int32) (x3 : Int32) (σ : St) {w : Int32 × St} (KR : ∀ (H : Heap) (locs : List Loc) (ls : Array Slot) (pc : Nat), Wd g s w.2 H locs → decode cX11_cutsOf pc = .ok (.ireturn, 1) → W p l e (rmm 4 95) s m args below meth c H locs 0 0 Q (F0 m pc ls [.int (w.1)])) {H : Heap} {locs : List Loc} {ls : Array Slot} (Y : Wd g s σ H locs) (hl : lv_has ls 13 [(0, .ref (g.2.2 (101))), (1, .int (x1)), (2, .int (x2)), (3, .int (x3))]) (h : f_X11_cutsOf_0 x1 x2 x3 σ = some w) : W p l e (rmm 4 95) s m args below meth c H locs 0 0 Q (F0 m 0 ls []) := by
  unfold f_X11_cutsOf_0 at h
  refine lv_aload_n X.1 X.2.1 (dk T_X11_cutsOf 0 rfl) rfl (lv_at hl 0 rfl) ?_
  refine lv_iload_n X.1 X.2.1 (dk T_X11_cutsOf 1 rfl) rfl (lv_at hl 1 rfl) ?_
  obtain ⟨q1, hq1, h⟩ := bs h
  refine gvV (rest := []) X Y (c_X11_looks x1 σ hq1) cb_X11_145 rfl hl.1 rfl rfl (Nat.le_of_ble_eq_true rfl) ⟨Nat.le_of_ble_eq_true rfl, Nat.le_of_ble_eq_true rfl⟩ (dk T_X11_cutsOf 2 rfl) (fun H locs Y => ?_)
  refine lv_aload_n X.1 X.2.1 (dk T_X11_cutsOf 3 rfl) rfl (lv_at hl 0 rfl) ?_
  refine gg X Y fl_X11_7 rfl rfl (dk T_X11_cutsOf 4 rfl) ?_
  refine lv_iconst (v := 3) X.1 X.2.1 (dk T_X11_cutsOf 5 rfl) ic_3 ?_
  refine lv_iload_n X.1 X.2.1 (dk T_X11_cutsOf 6 rfl) rfl (lv_at hl 1 rfl) ?_
  refine lv_iadd X.1 X.2.1 (dk T_X11_cutsOf 7 rfl) ?_
  obtain ⟨g2, h⟩ := gd h
  refine gil X Y rfl (inp g2) (dk T_X11_cutsOf 8 rfl) ?_
  refine lv_istore (lv' := [(4, .int (q1 102 (3 + x1).toNatClampNeg)), (0, .ref (g.2.2 (101))), (1, .int (x1)), (2, .int (x2)), (3, .int (x3))]) X.1 X.2.1 (dk T_X11_cutsOf 9 rfl) hl (Nat.le_of_ble_eq_true rfl) rfl (fun ls hl => ?_)
  refine lv_iconst (v := 0) X.1 X.2.1 (dk T_X11_cutsOf 10 rfl) ic_0 ?_
  refine lv_istore (lv' := [(5, .int (0)), (4, .int (q1 102 (3 + x1).toNatClampNeg)), (0, .ref (g.2.2 (101))), (1, .int (x1)), (2, .int (x2)), (3, .int (x3))]) X.1 X.2.1 (dk T_X11_cutsOf 11 rfl) hl (Nat.le_of_ble_eq_true rfl) rfl (fun ls hl => ?_)
  refine lv_iconst (v := 0) X.1 X.2.1 (dk T_X11_cutsOf 12 rfl) ic_0 ?_
  refine lv_istore (lv' := [(6, .int (0)), (5, .int (0)), (4, .int (q1 102 (3 + x1).toNatClampNeg)), (0, .ref (g.2.2 (101))), (1, .int (x1)), (2, .int (x2)), (3, .int (x3))]) X.1 X.2.1 (dk T_X11_cutsOf 13 rfl) hl (Nat.le_of_ble_eq_true rfl) rfl (fun ls hl => ?_)
  obtain ⟨q26, hq26, h⟩ := bs h
  refine w_X11_cutsOf_l21 X x1 x2 x3 (q1 102 (3 + x1).toNatClampNeg) q1 (fun v e H locs ls Y hl => ?_) FU (0, 0) Y (lv_sub hl [3, 4, 5, 6, 2, 1, 0] rfl) hq26
  · obtain rfl := e
    refine lv_iload X.1 X.2.1 (dk T_X11_cutsOf 110 rfl) (lv_at hl 0 rfl) ?_
    obtain rfl := Option.some.inj h
    exact KR _ _ _ _ Y (dk T_X11_cutsOf 111 rfl)
def f_X11_cutsOf (x1 : Int32) (x2 : Int32) (x3 : Int32) (σ : St) : Option (Int32 × St) := f_X11_cutsOf_0 x1 x2 x3 σ
set_option maxHeartbeats 4000000 in
set_option maxRecDepth 100000 in
theorem c_X11_cutsOf {l : Launch} {g : Geo} (x1 : Int32) (x2 : Int32) (x3 : Int32) (σ : St) {w : Int32 × St} (h : f_X11_cutsOf x1 x2 x3 σ = some w) : CtI l yX11_cutsOf cX11_cutsOf 13 (some .int) (rmm 4 95) g [.ref (g.2.2 (101)), .int (x1), .int (x2), .int (x3)] σ w.1 w.2 := enI .int (by decide) rfl rfl (Nat.le_of_ble_eq_true rfl) (fun p e s m args below meth c Q X Y ls hl KR => w_X11_cutsOf_0 X x1 x2 x3 σ KR Y hl h)
def I_X11_sheet : List (Nat × Instr × Nat) := [(0, .aload_n 0, 1), (1, .iconst 0, 1), (2, .putfield 71, 3), (5, .aload_n 0, 1), (6, .iload_n 1, 1), (7, .invokevirtual 155, 3), (10, .ifCond .ne 9, 3), (13, .aload_n 0, 1), (14, .iconst 1, 1), (15, .invokevirtual 91, 3), (18, .ireturn, 1), (19, .iload_n 2, 1), (20, .iconst 0, 1), (21, .bipush 9, 2), (23, .invokestatic 75, 3), (26, .ifCond .ne 9, 3), (29, .aload_n 0, 1), (30, .iconst 2, 1), (31, .invokevirtual 91, 3), (34, .ireturn, 1), (35, .aload_n 0, 1), (36, .iload_n 1, 1), (37, .invokevirtual 175, 3), (40, .iconst 0, 1), (41, .istore_n 3, 1), (42, .iconst 0, 1), (43, .istore 4, 2), (45, .iconst 0, 1), (46, .istore 5, 2), (48, .iload 5, 2), (50, .aload_n 0, 1), (51, .iload_n 1, 1), (52, .invokevirtual 149, 3), (55, .if_icmp .ge 48, 3), (58, .iload_n 3, 1), (59, .aload_n 0, 1), (60, .iload_n 1, 1), (61, .iload 5, 2), (63, .invokevirtual 142, 3), (66, .ifCond .eq 7, 3), (69, .iconst 1, 1), (70, .goto 4, 3), (73, .iconst 0, 1), (74, .iadd, 1), (75, .istore_n 3, 1), (76, .iload 4, 2), (78, .aload_n 0, 1), (79, .getfield 37, 3), (82, .iload 5, 2), (84, .iaload, 1), (85, .iconst (-1), 1), (86, .if_icmp .ne 7, 3), (89, .iconst 0, 1), (90, .goto 4, 3), (93, .iconst 1, 1), (94, .iadd, 1), (95, .istore 4, 2), (97, .iinc 5 1, 3), (100, .goto (-52), 3), (103, .iload_n 2, 1), (104, .tableswitch 119 0 8 #[52, 61, 71, 81, 86, 94, 97, 103, 111], 52), (156, .aload_n 0, 1), (157, .getfield 7, 3), (160, .iconst 3, 1), (161, .iload_n 1, 1), (162, .iadd, 1), (163, .iaload, 1), (164, .ireturn, 1), (165, .aload_n 0, 1), (166, .getfield 7, 3), (169, .bipush 9, 2), (171, .iload_n 1, 1), (172, .iadd, 1), (173, .iaload, 1), (174, .ireturn, 1), (175, .aload_n 0, 1), (176, .getfield 7, 3), (179, .bipush 15, 2), (181, .iload_n 1, 1), (182, .iadd, 1), (183, .iaload, 1), (184, .ireturn, 1), (185, .iload_n 3, 1), (186, .iload 4, 2), (188, .isub, 1), (189, .ireturn, 1), (190, .aload_n 0, 1), (191, .iload_n 1, 1), (192, .invokevirtual 149, 3), (195, .iload_n 3, 1), (196, .isub, 1), (197, .ireturn, 1), (198, .iload 4, 2), (200, .ireturn, 1), (201, .aload_n 0, 1), (202, .iload_n 1, 1), (203, .invokevirtual 178, 3), (206, .ireturn, 1), (207, .aload_n 0, 1), (208, .iload_n 1, 1), (209, .iconst 0, 1), (210, .iconst (-1), 1), (211, .invokevirtual 181, 3), (214, .ireturn, 1), (215, .aload_n 0, 1), (216, .iload_n 1, 1), (217, .iconst 1, 1), (218, .iconst (-1), 1), (219, .invokevirtual 181, 3), (222, .ireturn, 1), (223, .aload_n 0, 1), (224, .getfield 165, 3), (227, .ireturn, 1)]
set_option maxRecDepth 100000 in
theorem T_X11_sheet : ∀ q ∈ I_X11_sheet, decode cX11_sheet q.1 = .ok (q.2.1, q.2.2) := by decide +kernel
def f_X11_sheet_j94 (x1 : Int32) (x2 : Int32) (x3 : Int32) (x5 : Int32) (s0 : Int32) (s1 : Int32) (σ : St) : Option ((Int32 × Int32 × Int32) ⊕ (Int32 × Int32)) :=
  some (.inl (x3, s1 + s0, x5 + 1))
set_option maxHeartbeats 4000000 in
set_option maxRecDepth 100000 in
theorem w_X11_sheet_j94 (X : Cx g RX11 cX11_sheet 6 (some .int) p s m args meth c) (x1 : Int32) (x2 : Int32) (x3 : Int32) (x5 : Int32) (s0 : Int32) (s1 : Int32) (σ : St) {w : (Int32 × Int32 × Int32) ⊕ (Int32 × Int32)} (KB : ∀ (v0_ : Int32) (v1_ : Int32) (v2_ : Int32), w = .inl (v0_, v1_, v2_) → ∀ (H : Heap) (locs : List Loc) (ls : Array Slot), Wd g s σ H locs → lv_has ls 6 [(0, .ref (g.2.2 (101))), (1, .int (x1)), (2, .int (x2)), (3, .int (v0_)), (4, .int (v1_)), (5, .int (v2_))] → W p l e (rmm 5 127) s m args below meth c H locs 0 0 Q (F0 m 48 ls [])) (KX0 : ∀ (v0_ : Int32) (v1_ : Int32), w = .inr (v0_, v1_) → ∀ (H : Heap) (locs : List Loc) (ls : Array Slot), Wd g s σ H locs → lv_has ls 6 [(0, .ref (g.2.2 (101))), (1, .int (x1)), (2, .int (x2)), (3, .int (v0_)), (4, .int (v1_))] → W p l e (rmm 5 127) s m args below meth c H locs 0 0 Q (F0 m 103 ls [])) {H : Heap} {locs : List Loc} {ls : Array Slot} (Y : Wd g s σ H locs) (hl : lv_has ls 6 [(0, .ref (g.2.2 (101))), (1, .int (x1)), (2, .int (x2)), (3, .int (x3)), (5, .int (x5))]) (h : f_X11_sheet_j94 x1 x2 x3 x5 s0 s1 σ = some w) : W p l e (rmm 5 127) s m args below meth c H locs 0 0 Q (F0 m 94 ls [.int (s0), .int (s1)]) := by
  unfold f_X11_sheet_j94 at h
  refine lv_iadd X.1 X.2.1 (dk T_X11_sheet 55 rfl) ?_
  refine lv_istore (lv' := [(4, .int (s1 + s0)), (0, .ref (g.2.2 (101))), (1, .int (x1)), (2, .int (x2)), (3, .int (x3)), (5, .int (x5))]) X.1 X.2.1 (dk T_X11_sheet 56 rfl) hl (Nat.le_of_ble_eq_true rfl) rfl (fun ls hl => ?_)
  refine lv_iinc (v := x5 + 1) (lv' := [(5, .int (x5 + 1)), (4, .int (s1 + s0)), (0, .ref (g.2.2 (101))), (1, .int (x1)), (2, .int (x2)), (3, .int (x3))]) X.1 X.2.1 (dk T_X11_sheet 57 rfl) hl (k := 5) rfl (icx ic_1) (Nat.le_of_ble_eq_true rfl) rfl (fun ls hl => ?_)
  refine lv_goto (tgt := 48) X.1 X.2.1 (dk T_X11_sheet 58 rfl) rfl ?_
  exact KB x3 (s1 + s0) (x5 + 1) (Option.some.inj h).symm _ _ _ Y (lv_sub hl [2, 3, 4, 5, 1, 0] rfl)
def f_X11_sheet_j74 (x1 : Int32) (x2 : Int32) (x4 : Int32) (x5 : Int32) (s0 : Int32) (s1 : Int32) (σ : St) : Option ((Int32 × Int32 × Int32) ⊕ (Int32 × Int32)) :=
  chk (inb x5 100) (if (σ 111 x5.toNatClampNeg) = (-1) then f_X11_sheet_j94 x1 x2 (s1 + s0) x5 0 x4 σ else f_X11_sheet_j94 x1 x2 (s1 + s0) x5 1 x4 σ)
set_option maxHeartbeats 4000000 in
set_option maxRecDepth 100000 in
theorem w_X11_sheet_j74 (X : Cx g RX11 cX11_sheet 6 (some .int) p s m args meth c) (x1 : Int32) (x2 : Int32) (x4 : Int32) (x5 : Int32) (s0 : Int32) (s1 : Int32) (σ : St) {w : (Int32 × Int32 × Int32) ⊕ (Int32 × Int32)} (KB : ∀ (v0_ : Int32) (v1_ : Int32) (v2_ : Int32), w = .inl (v0_, v1_, v2_) → ∀ (H : Heap) (locs : List Loc) (ls : Array Slot), Wd g s σ H locs → lv_has ls 6 [(0, .ref (g.2.2 (101))), (1, .int (x1)), (2, .int (x2)), (3, .int (v0_)), (4, .int (v1_)), (5, .int (v2_))] → W p l e (rmm 5 127) s m args below meth c H locs 0 0 Q (F0 m 48 ls [])) (KX0 : ∀ (v0_ : Int32) (v1_ : Int32), w = .inr (v0_, v1_) → ∀ (H : Heap) (locs : List Loc) (ls : Array Slot), Wd g s σ H locs → lv_has ls 6 [(0, .ref (g.2.2 (101))), (1, .int (x1)), (2, .int (x2)), (3, .int (v0_)), (4, .int (v1_))] → W p l e (rmm 5 127) s m args below meth c H locs 0 0 Q (F0 m 103 ls [])) {H : Heap} {locs : List Loc} {ls : Array Slot} (Y : Wd g s σ H locs) (hl : lv_has ls 6 [(0, .ref (g.2.2 (101))), (1, .int (x1)), (2, .int (x2)), (4, .int (x4)), (5, .int (x5))]) (h : f_X11_sheet_j74 x1 x2 x4 x5 s0 s1 σ = some w) : W p l e (rmm 5 127) s m args below meth c H locs 0 0 Q (F0 m 74 ls [.int (s0), .int (s1)]) := by
  unfold f_X11_sheet_j74 at h
  refine lv_iadd X.1 X.2.1 (dk T_X11_sheet 43 rfl) ?_
  refine lv_istore_n (lv' := [(3, .int (s1 + s0)), (0, .ref (g.2.2 (101))), (1, .int (x1)), (2, .int (x2)), (4, .int (x4)), (5, .int (x5))]) X.1 X.2.1 (dk T_X11_sheet 44 rfl) rfl hl (Nat.le_of_ble_eq_true rfl) rfl (fun ls hl => ?_)
  refine lv_iload X.1 X.2.1 (dk T_X11_sheet 45 rfl) (lv_at hl 4 rfl) ?_
  refine lv_aload_n X.1 X.2.1 (dk T_X11_sheet 46 rfl) rfl (lv_at hl 1 rfl) ?_
  refine gg X Y fl_X11_37 rfl rfl (dk T_X11_sheet 47 rfl) ?_
  refine lv_iload X.1 X.2.1 (dk T_X11_sheet 48 rfl) (lv_at hl 5 rfl) ?_
  obtain ⟨g10, h⟩ := gd h
  refine gil X Y rfl (inp g10) (dk T_X11_sheet 49 rfl) ?_
  refine lv_iconst (v := (-1)) X.1 X.2.1 (dk T_X11_sheet 50 rfl) ic_m1 ?_
  refine lv_icmp_ne (tgt := 93) X.1 X.2.1 (dk T_X11_sheet 51 rfl) rfl (fun c11 => ?_) (fun c11 => ?_)
  · replace h := ineg c11 h
    refine lv_iconst (v := 1) X.1 X.2.1 (dk T_X11_sheet 54 rfl) ic_1 ?_
    exact w_X11_sheet_j94 X x1 x2 (s1 + s0) x5 1 x4 σ KB KX0 Y (lv_sub hl [1, 2, 3, 0, 5] rfl) h
  · replace h := ipos c11 h
    refine lv_iconst (v := 0) X.1 X.2.1 (dk T_X11_sheet 52 rfl) ic_0 ?_
    refine lv_goto (tgt := 94) X.1 X.2.1 (dk T_X11_sheet 53 rfl) rfl ?_
    exact w_X11_sheet_j94 X x1 x2 (s1 + s0) x5 0 x4 σ KB KX0 Y (lv_sub hl [1, 2, 3, 0, 5] rfl) h
def f_X11_sheet_l48 (x1 : Int32) (x2 : Int32) (σ : St) (z : Int32 × Int32 × Int32) : Option ((Int32 × Int32 × Int32) ⊕ (Int32 × Int32)) :=
  (f_X11_cells x1 σ).bind fun q6 => if q6 ≤ z.2.2 then some (.inr (z.1, z.2.1)) else (f_X11_isUsable x1 z.2.2 σ).bind fun q8 => if q8 = 0 then f_X11_sheet_j74 x1 x2 z.2.1 z.2.2 0 z.1 σ else f_X11_sheet_j74 x1 x2 z.2.1 z.2.2 1 z.1 σ
set_option maxHeartbeats 4000000 in
set_option maxRecDepth 100000 in
theorem w_X11_sheet_l48 (X : Cx g RX11 cX11_sheet 6 (some .int) p s m args meth c) (x1 : Int32) (x2 : Int32) (σ : St) {r : Int32 × Int32} (KX0 : ∀ (v0_ : Int32) (v1_ : Int32), r = (v0_, v1_) → ∀ (H : Heap) (locs : List Loc) (ls : Array Slot), Wd g s σ H locs → lv_has ls 6 [(0, .ref (g.2.2 (101))), (1, .int (x1)), (2, .int (x2)), (3, .int (v0_)), (4, .int (v1_))] → W p l e (rmm 5 127) s m args below meth c H locs 0 0 Q (F0 m 103 ls [])) : ∀ (n : Nat) (z : Int32 × Int32 × Int32) {H : Heap} {locs : List Loc} {ls : Array Slot}, Wd g s σ H locs → lv_has ls 6 [(0, .ref (g.2.2 (101))), (1, .int (x1)), (2, .int (x2)), (3, .int (z.1)), (4, .int (z.2.1)), (5, .int (z.2.2))] → lp (f_X11_sheet_l48 x1 x2 σ) n z = some r → W p l e (rmm 5 127) s m args below meth c H locs 0 0 Q (F0 m 48 ls []) := by
  intro n
  induction n with
  | zero => intro z H locs ls Y hl h; cases h
  | succ n ih =>
    intro z H locs ls Y hl h
    obtain ⟨w, h, hw⟩ := lps h
    have KB : ∀ (v0_ : Int32) (v1_ : Int32) (v2_ : Int32), w = .inl (v0_, v1_, v2_) → ∀ (H : Heap) (locs : List Loc) (ls : Array Slot), Wd g s σ H locs → lv_has ls 6 [(0, .ref (g.2.2 (101))), (1, .int (x1)), (2, .int (x2)), (3, .int (v0_)), (4, .int (v1_)), (5, .int (v2_))] → W p l e (rmm 5 127) s m args below meth c H locs 0 0 Q (F0 m 48 ls []) := fun v0_ v1_ v2_ e H locs ls Y hl => ih (v0_, v1_, v2_) Y hl (lpl hw e)
    have KX0 := fun (v0_ : Int32) (v1_ : Int32) (e : w = .inr (v0_, v1_)) => KX0 v0_ v1_ (lpr hw e)
    unfold f_X11_sheet_l48 at h
    refine lv_iload X.1 X.2.1 (dk T_X11_sheet 29 rfl) (lv_at hl 5 rfl) ?_
    refine lv_aload_n X.1 X.2.1 (dk T_X11_sheet 30 rfl) rfl (lv_at hl 0 rfl) ?_
    refine lv_iload_n X.1 X.2.1 (dk T_X11_sheet 31 rfl) rfl (lv_at hl 1 rfl) ?_
    obtain ⟨q6, hq6, h⟩ := bs h
    refine gvI (rest := [.int (z.2.2)]) X Y (c_X11_cells x1 σ hq6) cb_X11_149 rfl hl.1 rfl rfl (Nat.le_of_ble_eq_true rfl) ⟨Nat.le_of_ble_eq_true rfl, Nat.le_of_ble_eq_true rfl⟩ (dk T_X11_sheet 32 rfl) (fun H locs Y => ?_)
    refine lv_icmp_ge (tgt := 103) X.1 X.2.1 (dk T_X11_sheet 33 rfl) rfl (fun c7 => ?_) (fun c7 => ?_)
    · replace h := ipos c7 h
      exact KX0 z.1 z.2.1 (Option.some.inj h).symm _ _ _ Y (lv_sub hl [0, 1, 2, 3, 4] rfl)
    · replace h := ineg c7 h
      refine lv_iload_n X.1 X.2.1 (dk T_X11_sheet 34 rfl) rfl (lv_at hl 3 rfl) ?_
      refine lv_aload_n X.1 X.2.1 (dk T_X11_sheet 35 rfl) rfl (lv_at hl 0 rfl) ?_
      refine lv_iload_n X.1 X.2.1 (dk T_X11_sheet 36 rfl) rfl (lv_at hl 1 rfl) ?_
      refine lv_iload X.1 X.2.1 (dk T_X11_sheet 37 rfl) (lv_at hl 5 rfl) ?_
      obtain ⟨q8, hq8, h⟩ := bs h
      refine gvI (rest := [.int (z.1)]) X Y (c_X11_isUsable x1 z.2.2 σ hq8) cb_X11_142 rfl hl.1 rfl rfl (Nat.le_of_ble_eq_true rfl) ⟨Nat.le_of_ble_eq_true rfl, Nat.le_of_ble_eq_true rfl⟩ (dk T_X11_sheet 38 rfl) (fun H locs Y => ?_)
      refine lv_if_eq (tgt := 73) X.1 X.2.1 (dk T_X11_sheet 39 rfl) rfl (fun c9 => ?_) (fun c9 => ?_)
      · replace h := ipos c9 h
        refine lv_iconst (v := 0) X.1 X.2.1 (dk T_X11_sheet 42 rfl) ic_0 ?_
        exact w_X11_sheet_j74 X x1 x2 z.2.1 z.2.2 0 z.1 σ KB KX0 Y (lv_sub hl [0, 1, 2, 4, 5] rfl) h
      · replace h := ineg c9 h
        refine lv_iconst (v := 1) X.1 X.2.1 (dk T_X11_sheet 40 rfl) ic_1 ?_
        refine lv_goto (tgt := 74) X.1 X.2.1 (dk T_X11_sheet 41 rfl) rfl ?_
        exact w_X11_sheet_j74 X x1 x2 z.2.1 z.2.2 1 z.1 σ KB KX0 Y (lv_sub hl [0, 1, 2, 4, 5] rfl) h
def f_X11_sheet_0 (x1 : Int32) (x2 : Int32) (σ : St) : Option (Int32 × St) :=
  (f_X11_isSheet x1 (up σ 101 0 0)).bind fun q1 => if q1 = 0 then (f_X11_fails 1 (up σ 101 0 0)).bind fun q30 => some (q30.1, q30.2) else (f_X11_in x2 0 9).bind fun q3 => if q3 = 0 then (f_X11_fails 2 (up σ 101 0 0)).bind fun q29 => some (q29.1, q29.2) else (f_X11_remnants x1 (up σ 101 0 0)).bind fun q5 => (lp (f_X11_sheet_l48 x1 x2 q5) FU (0, 0, 0)).bind fun q12 => if x2 = 0 then chk (inb (3 + x1) 761) (some (q5 102 (3 + x1).toNatClampNeg, q5)) else if x2 = 1 then chk (inb (9 + x1) 761) (some (q5 102 (9 + x1).toNatClampNeg, q5)) else if x2 = 2 then chk (inb (15 + x1) 761) (some (q5 102 (15 + x1).toNatClampNeg, q5)) else if x2 = 3 then some (q12.1 - q12.2, q5) else if x2 = 4 then (f_X11_cells x1 q5).bind fun q21 => some (q21 - q12.1, q5) else if x2 = 5 then some (q12.2, q5) else if x2 = 6 then (f_X11_partsOn x1 q5).bind fun q24 => some (q24, q5) else if x2 = 7 then (f_X11_cutsOf x1 0 (-1) q5).bind fun q26 => some (q26.1, q26.2) else if x2 = 8 then (f_X11_cutsOf x1 1 (-1) q5).bind fun q28 => some (q28.1, q28.2) else some (q5 101 17, q5)
set_option maxHeartbeats 4000000 in
set_option maxRecDepth 100000 in
theorem w_X11_sheet_0 (X : Cx g RX11 cX11_sheet 6 (some .int) p s m args meth c) (x1 : Int32) (x2 : Int32) (σ : St) {w : Int32 × St} (KR : ∀ (H : Heap) (locs : List Loc) (ls : Array Slot) (pc : Nat), Wd g s w.2 H locs → decode cX11_sheet pc = .ok (.ireturn, 1) → W p l e (rmm 5 127) s m args below meth c H locs 0 0 Q (F0 m pc ls [.int (w.1)])) {H : Heap} {locs : List Loc} {ls : Array Slot} (Y : Wd g s σ H locs) (hl : lv_has ls 6 [(0, .ref (g.2.2 (101))), (1, .int (x1)), (2, .int (x2))]) (h : f_X11_sheet_0 x1 x2 σ = some w) : W p l e (rmm 5 127) s m args below meth c H locs 0 0 Q (F0 m 0 ls []) := by
  unfold f_X11_sheet_0 at h
  refine lv_aload_n X.1 X.2.1 (dk T_X11_sheet 0 rfl) rfl (lv_at hl 0 rfl) ?_
  refine lv_iconst (v := 0) X.1 X.2.1 (dk T_X11_sheet 1 rfl) ic_0 ?_
  refine gp X Y fp_X11_71 rfl (nar_int _) (dk T_X11_sheet 2 rfl) (fun H locs Y => ?_)
  refine lv_aload_n X.1 X.2.1 (dk T_X11_sheet 3 rfl) rfl (lv_at hl 0 rfl) ?_
  refine lv_iload_n X.1 X.2.1 (dk T_X11_sheet 4 rfl) rfl (lv_at hl 1 rfl) ?_
  obtain ⟨q1, hq1, h⟩ := bs h
  refine gvI (rest := []) X Y (c_X11_isSheet x1 (up σ 101 0 0) hq1) cb_X11_155 rfl hl.1 rfl rfl (Nat.le_of_ble_eq_true rfl) ⟨Nat.le_of_ble_eq_true rfl, Nat.le_of_ble_eq_true rfl⟩ (dk T_X11_sheet 5 rfl) (fun H locs Y => ?_)
  refine lv_if_ne (tgt := 19) X.1 X.2.1 (dk T_X11_sheet 6 rfl) rfl (fun c2 => ?_) (fun c2 => ?_)
  · replace h := ineg c2 h
    refine lv_iload_n X.1 X.2.1 (dk T_X11_sheet 11 rfl) rfl (lv_at hl 2 rfl) ?_
    refine lv_iconst (v := 0) X.1 X.2.1 (dk T_X11_sheet 12 rfl) ic_0 ?_
    refine lv_bipush (v := 9) X.1 X.2.1 (dk T_X11_sheet 13 rfl) bp_9 ?_
    obtain ⟨q3, hq3, h⟩ := bs h
    refine gsI (rest := []) X Y (c_X11_in x2 0 9 (up σ 101 0 0) hq3) cb_X11_75 hl.1 rfl rfl (Nat.le_of_ble_eq_true rfl) ⟨Nat.le_of_ble_eq_true rfl, Nat.le_of_ble_eq_true rfl⟩ (dk T_X11_sheet 14 rfl) (fun H locs Y => ?_)
    refine lv_if_ne (tgt := 35) X.1 X.2.1 (dk T_X11_sheet 15 rfl) rfl (fun c4 => ?_) (fun c4 => ?_)
    · replace h := ineg c4 h
      refine lv_aload_n X.1 X.2.1 (dk T_X11_sheet 20 rfl) rfl (lv_at hl 0 rfl) ?_
      refine lv_iload_n X.1 X.2.1 (dk T_X11_sheet 21 rfl) rfl (lv_at hl 1 rfl) ?_
      obtain ⟨q5, hq5, h⟩ := bs h
      refine gvV (rest := []) X Y (c_X11_remnants x1 (up σ 101 0 0) hq5) cb_X11_175 rfl hl.1 rfl rfl (Nat.le_of_ble_eq_true rfl) ⟨Nat.le_of_ble_eq_true rfl, Nat.le_of_ble_eq_true rfl⟩ (dk T_X11_sheet 22 rfl) (fun H locs Y => ?_)
      refine lv_iconst (v := 0) X.1 X.2.1 (dk T_X11_sheet 23 rfl) ic_0 ?_
      refine lv_istore_n (lv' := [(3, .int (0)), (0, .ref (g.2.2 (101))), (1, .int (x1)), (2, .int (x2))]) X.1 X.2.1 (dk T_X11_sheet 24 rfl) rfl hl (Nat.le_of_ble_eq_true rfl) rfl (fun ls hl => ?_)
      refine lv_iconst (v := 0) X.1 X.2.1 (dk T_X11_sheet 25 rfl) ic_0 ?_
      refine lv_istore (lv' := [(4, .int (0)), (3, .int (0)), (0, .ref (g.2.2 (101))), (1, .int (x1)), (2, .int (x2))]) X.1 X.2.1 (dk T_X11_sheet 26 rfl) hl (Nat.le_of_ble_eq_true rfl) rfl (fun ls hl => ?_)
      refine lv_iconst (v := 0) X.1 X.2.1 (dk T_X11_sheet 27 rfl) ic_0 ?_
      refine lv_istore (lv' := [(5, .int (0)), (4, .int (0)), (3, .int (0)), (0, .ref (g.2.2 (101))), (1, .int (x1)), (2, .int (x2))]) X.1 X.2.1 (dk T_X11_sheet 28 rfl) hl (Nat.le_of_ble_eq_true rfl) rfl (fun ls hl => ?_)
      obtain ⟨q12, hq12, h⟩ := bs h
      refine w_X11_sheet_l48 X x1 x2 q5 (fun v0_ v1_ e H locs ls Y hl => ?_) FU (0, 0, 0) Y (lv_sub hl [3, 4, 5, 2, 1, 0] rfl) hq12
      · obtain ⟨rfl, rfl⟩ : v0_ = q12.1 ∧ v1_ = q12.2 := ⟨by rw [e], by rw [e]⟩
        refine lv_iload_n X.1 X.2.1 (dk T_X11_sheet 59 rfl) rfl (lv_at hl 2 rfl) ?_
        rcases Decidable.em (x2 = 0) with c13 | c13
        · replace h := ipos c13 h
          refine lv_tableIn (tgt := 156) (off := 52) X.1 X.2.1 (dk T_X11_sheet 60 rfl) (ts1 c13 (by decide)) (ts2 c13 (by decide)) (ts3 c13 (by decide)) rfl ?_
          refine lv_aload_n X.1 X.2.1 (dk T_X11_sheet 61 rfl) rfl (lv_at hl 0 rfl) ?_
          refine gg X Y fl_X11_7 rfl rfl (dk T_X11_sheet 62 rfl) ?_
          refine lv_iconst (v := 3) X.1 X.2.1 (dk T_X11_sheet 63 rfl) ic_3 ?_
          refine lv_iload_n X.1 X.2.1 (dk T_X11_sheet 64 rfl) rfl (lv_at hl 1 rfl) ?_
          refine lv_iadd X.1 X.2.1 (dk T_X11_sheet 65 rfl) ?_
          obtain ⟨g14, h⟩ := gd h
          refine gil X Y rfl (inp g14) (dk T_X11_sheet 66 rfl) ?_
          obtain rfl := Option.some.inj h
          exact KR _ _ _ _ Y (dk T_X11_sheet 67 rfl)
        replace h := ineg c13 h
        rcases Decidable.em (x2 = 1) with c15 | c15
        · replace h := ipos c15 h
          refine lv_tableIn (tgt := 165) (off := 61) X.1 X.2.1 (dk T_X11_sheet 60 rfl) (ts1 c15 (by decide)) (ts2 c15 (by decide)) (ts3 c15 (by decide)) rfl ?_
          refine lv_aload_n X.1 X.2.1 (dk T_X11_sheet 68 rfl) rfl (lv_at hl 0 rfl) ?_
          refine gg X Y fl_X11_7 rfl rfl (dk T_X11_sheet 69 rfl) ?_
          refine lv_bipush (v := 9) X.1 X.2.1 (dk T_X11_sheet 70 rfl) bp_9 ?_
          refine lv_iload_n X.1 X.2.1 (dk T_X11_sheet 71 rfl) rfl (lv_at hl 1 rfl) ?_
          refine lv_iadd X.1 X.2.1 (dk T_X11_sheet 72 rfl) ?_
          obtain ⟨g16, h⟩ := gd h
          refine gil X Y rfl (inp g16) (dk T_X11_sheet 73 rfl) ?_
          obtain rfl := Option.some.inj h
          exact KR _ _ _ _ Y (dk T_X11_sheet 74 rfl)
        replace h := ineg c15 h
        rcases Decidable.em (x2 = 2) with c17 | c17
        · replace h := ipos c17 h
          refine lv_tableIn (tgt := 175) (off := 71) X.1 X.2.1 (dk T_X11_sheet 60 rfl) (ts1 c17 (by decide)) (ts2 c17 (by decide)) (ts3 c17 (by decide)) rfl ?_
          refine lv_aload_n X.1 X.2.1 (dk T_X11_sheet 75 rfl) rfl (lv_at hl 0 rfl) ?_
          refine gg X Y fl_X11_7 rfl rfl (dk T_X11_sheet 76 rfl) ?_
          refine lv_bipush (v := 15) X.1 X.2.1 (dk T_X11_sheet 77 rfl) bp_15 ?_
          refine lv_iload_n X.1 X.2.1 (dk T_X11_sheet 78 rfl) rfl (lv_at hl 1 rfl) ?_
          refine lv_iadd X.1 X.2.1 (dk T_X11_sheet 79 rfl) ?_
          obtain ⟨g18, h⟩ := gd h
          refine gil X Y rfl (inp g18) (dk T_X11_sheet 80 rfl) ?_
          obtain rfl := Option.some.inj h
          exact KR _ _ _ _ Y (dk T_X11_sheet 81 rfl)
        replace h := ineg c17 h
        rcases Decidable.em (x2 = 3) with c19 | c19
        · replace h := ipos c19 h
          refine lv_tableIn (tgt := 185) (off := 81) X.1 X.2.1 (dk T_X11_sheet 60 rfl) (ts1 c19 (by decide)) (ts2 c19 (by decide)) (ts3 c19 (by decide)) rfl ?_
          refine lv_iload_n X.1 X.2.1 (dk T_X11_sheet 82 rfl) rfl (lv_at hl 3 rfl) ?_
          refine lv_iload X.1 X.2.1 (dk T_X11_sheet 83 rfl) (lv_at hl 4 rfl) ?_
          refine lv_isub X.1 X.2.1 (dk T_X11_sheet 84 rfl) ?_
          obtain rfl := Option.some.inj h
          exact KR _ _ _ _ Y (dk T_X11_sheet 85 rfl)
        replace h := ineg c19 h
        rcases Decidable.em (x2 = 4) with c20 | c20
        · replace h := ipos c20 h
          refine lv_tableIn (tgt := 190) (off := 86) X.1 X.2.1 (dk T_X11_sheet 60 rfl) (ts1 c20 (by decide)) (ts2 c20 (by decide)) (ts3 c20 (by decide)) rfl ?_
          refine lv_aload_n X.1 X.2.1 (dk T_X11_sheet 86 rfl) rfl (lv_at hl 0 rfl) ?_
          refine lv_iload_n X.1 X.2.1 (dk T_X11_sheet 87 rfl) rfl (lv_at hl 1 rfl) ?_
          obtain ⟨q21, hq21, h⟩ := bs h
          refine gvI (rest := []) X Y (c_X11_cells x1 q5 hq21) cb_X11_149 rfl hl.1 rfl rfl (Nat.le_of_ble_eq_true rfl) ⟨Nat.le_of_ble_eq_true rfl, Nat.le_of_ble_eq_true rfl⟩ (dk T_X11_sheet 88 rfl) (fun H locs Y => ?_)
          refine lv_iload_n X.1 X.2.1 (dk T_X11_sheet 89 rfl) rfl (lv_at hl 3 rfl) ?_
          refine lv_isub X.1 X.2.1 (dk T_X11_sheet 90 rfl) ?_
          obtain rfl := Option.some.inj h
          exact KR _ _ _ _ Y (dk T_X11_sheet 91 rfl)
        replace h := ineg c20 h
        rcases Decidable.em (x2 = 5) with c22 | c22
        · replace h := ipos c22 h
          refine lv_tableIn (tgt := 198) (off := 94) X.1 X.2.1 (dk T_X11_sheet 60 rfl) (ts1 c22 (by decide)) (ts2 c22 (by decide)) (ts3 c22 (by decide)) rfl ?_
          refine lv_iload X.1 X.2.1 (dk T_X11_sheet 92 rfl) (lv_at hl 4 rfl) ?_
          obtain rfl := Option.some.inj h
          exact KR _ _ _ _ Y (dk T_X11_sheet 93 rfl)
        replace h := ineg c22 h
        rcases Decidable.em (x2 = 6) with c23 | c23
        · replace h := ipos c23 h
          refine lv_tableIn (tgt := 201) (off := 97) X.1 X.2.1 (dk T_X11_sheet 60 rfl) (ts1 c23 (by decide)) (ts2 c23 (by decide)) (ts3 c23 (by decide)) rfl ?_
          refine lv_aload_n X.1 X.2.1 (dk T_X11_sheet 94 rfl) rfl (lv_at hl 0 rfl) ?_
          refine lv_iload_n X.1 X.2.1 (dk T_X11_sheet 95 rfl) rfl (lv_at hl 1 rfl) ?_
          obtain ⟨q24, hq24, h⟩ := bs h
          refine gvI (rest := []) X Y (c_X11_partsOn x1 q5 hq24) cb_X11_178 rfl hl.1 rfl rfl (Nat.le_of_ble_eq_true rfl) ⟨Nat.le_of_ble_eq_true rfl, Nat.le_of_ble_eq_true rfl⟩ (dk T_X11_sheet 96 rfl) (fun H locs Y => ?_)
          obtain rfl := Option.some.inj h
          exact KR _ _ _ _ Y (dk T_X11_sheet 97 rfl)
        replace h := ineg c23 h
        rcases Decidable.em (x2 = 7) with c25 | c25
        · replace h := ipos c25 h
          refine lv_tableIn (tgt := 207) (off := 103) X.1 X.2.1 (dk T_X11_sheet 60 rfl) (ts1 c25 (by decide)) (ts2 c25 (by decide)) (ts3 c25 (by decide)) rfl ?_
          refine lv_aload_n X.1 X.2.1 (dk T_X11_sheet 98 rfl) rfl (lv_at hl 0 rfl) ?_
          refine lv_iload_n X.1 X.2.1 (dk T_X11_sheet 99 rfl) rfl (lv_at hl 1 rfl) ?_
          refine lv_iconst (v := 0) X.1 X.2.1 (dk T_X11_sheet 100 rfl) ic_0 ?_
          refine lv_iconst (v := (-1)) X.1 X.2.1 (dk T_X11_sheet 101 rfl) ic_m1 ?_
          obtain ⟨q26, hq26, h⟩ := bs h
          refine gvI (rest := []) X Y (c_X11_cutsOf x1 0 (-1) q5 hq26) cb_X11_181 rfl hl.1 rfl rfl (Nat.le_of_ble_eq_true rfl) ⟨Nat.le_of_ble_eq_true rfl, Nat.le_of_ble_eq_true rfl⟩ (dk T_X11_sheet 102 rfl) (fun H locs Y => ?_)
          obtain rfl := Option.some.inj h
          exact KR _ _ _ _ Y (dk T_X11_sheet 103 rfl)
        replace h := ineg c25 h
        rcases Decidable.em (x2 = 8) with c27 | c27
        · replace h := ipos c27 h
          refine lv_tableIn (tgt := 215) (off := 111) X.1 X.2.1 (dk T_X11_sheet 60 rfl) (ts1 c27 (by decide)) (ts2 c27 (by decide)) (ts3 c27 (by decide)) rfl ?_
          refine lv_aload_n X.1 X.2.1 (dk T_X11_sheet 104 rfl) rfl (lv_at hl 0 rfl) ?_
          refine lv_iload_n X.1 X.2.1 (dk T_X11_sheet 105 rfl) rfl (lv_at hl 1 rfl) ?_
          refine lv_iconst (v := 1) X.1 X.2.1 (dk T_X11_sheet 106 rfl) ic_1 ?_
          refine lv_iconst (v := (-1)) X.1 X.2.1 (dk T_X11_sheet 107 rfl) ic_m1 ?_
          obtain ⟨q28, hq28, h⟩ := bs h
          refine gvI (rest := []) X Y (c_X11_cutsOf x1 1 (-1) q5 hq28) cb_X11_181 rfl hl.1 rfl rfl (Nat.le_of_ble_eq_true rfl) ⟨Nat.le_of_ble_eq_true rfl, Nat.le_of_ble_eq_true rfl⟩ (dk T_X11_sheet 108 rfl) (fun H locs Y => ?_)
          obtain rfl := Option.some.inj h
          exact KR _ _ _ _ Y (dk T_X11_sheet 109 rfl)
        replace h := ineg c27 h
        refine lv_tableOut (tgt := 223) X.1 X.2.1 (dk T_X11_sheet 60 rfl) (ts9n c13 c15 c17 c19 c20 c22 c23 c25 c27) rfl ?_
        refine lv_aload_n X.1 X.2.1 (dk T_X11_sheet 110 rfl) rfl (lv_at hl 0 rfl) ?_
        refine gg X Y fl_X11_165 rfl rfl (dk T_X11_sheet 111 rfl) ?_
        obtain rfl := Option.some.inj h
        exact KR _ _ _ _ Y (dk T_X11_sheet 112 rfl)
    · replace h := ipos c4 h
      refine lv_aload_n X.1 X.2.1 (dk T_X11_sheet 16 rfl) rfl (lv_at hl 0 rfl) ?_
      refine lv_iconst (v := 2) X.1 X.2.1 (dk T_X11_sheet 17 rfl) ic_2 ?_
      obtain ⟨q29, hq29, h⟩ := bs h
      refine gvI (rest := []) X Y (c_X11_fails 2 (up σ 101 0 0) hq29) cb_X11_91 rfl hl.1 rfl rfl (Nat.le_of_ble_eq_true rfl) ⟨Nat.le_of_ble_eq_true rfl, Nat.le_of_ble_eq_true rfl⟩ (dk T_X11_sheet 18 rfl) (fun H locs Y => ?_)
      obtain rfl := Option.some.inj h
      exact KR _ _ _ _ Y (dk T_X11_sheet 19 rfl)
  · replace h := ipos c2 h
    refine lv_aload_n X.1 X.2.1 (dk T_X11_sheet 7 rfl) rfl (lv_at hl 0 rfl) ?_
    refine lv_iconst (v := 1) X.1 X.2.1 (dk T_X11_sheet 8 rfl) ic_1 ?_
    obtain ⟨q30, hq30, h⟩ := bs h
    refine gvI (rest := []) X Y (c_X11_fails 1 (up σ 101 0 0) hq30) cb_X11_91 rfl hl.1 rfl rfl (Nat.le_of_ble_eq_true rfl) ⟨Nat.le_of_ble_eq_true rfl, Nat.le_of_ble_eq_true rfl⟩ (dk T_X11_sheet 9 rfl) (fun H locs Y => ?_)
    obtain rfl := Option.some.inj h
    exact KR _ _ _ _ Y (dk T_X11_sheet 10 rfl)
def f_X11_sheet (x1 : Int32) (x2 : Int32) (σ : St) : Option (Int32 × St) := f_X11_sheet_0 x1 x2 σ
set_option maxHeartbeats 4000000 in
set_option maxRecDepth 100000 in
theorem c_X11_sheet {l : Launch} {g : Geo} (x1 : Int32) (x2 : Int32) (σ : St) {w : Int32 × St} (h : f_X11_sheet x1 x2 σ = some w) : CtI l yX11_sheet cX11_sheet 6 (some .int) (rmm 5 127) g [.ref (g.2.2 (101)), .int (x1), .int (x2)] σ w.1 w.2 := enI .int (by decide) rfl rfl (Nat.le_of_ble_eq_true rfl) (fun p e s m args below meth c Q X Y ls hl KR => w_X11_sheet_0 X x1 x2 σ KR Y hl h)
def I_X11_cell : List (Nat × Instr × Nat) := [(0, .aload_n 0, 1), (1, .iconst 0, 1), (2, .putfield 71, 3), (5, .aload_n 0, 1), (6, .iload_n 1, 1), (7, .invokevirtual 155, 3), (10, .ifCond .eq 18, 3), (13, .iload_n 2, 1), (14, .iconst 0, 1), (15, .aload_n 0, 1), (16, .iload_n 1, 1), (17, .invokevirtual 149, 3), (20, .iconst 1, 1), (21, .isub, 1), (22, .invokestatic 75, 3), (25, .ifCond .ne 9, 3), (28, .aload_n 0, 1), (29, .iconst 1, 1), (30, .invokevirtual 91, 3), (33, .ireturn, 1), (34, .aload_n 0, 1), (35, .iload_n 1, 1), (36, .invokevirtual 145, 3), (39, .aload_n 0, 1), (40, .getfield 37, 3), (43, .iload_n 2, 1), (44, .iaload, 1), (45, .iconst (-1), 1), (46, .if_icmp .eq 12, 3), (49, .aload_n 0, 1), (50, .getfield 37, 3), (53, .iload_n 2, 1), (54, .iaload, 1), (55, .goto 18, 3), (58, .aload_n 0, 1), (59, .iload_n 1, 1), (60, .iload_n 2, 1), (61, .invokevirtual 142, 3), (64, .ifCond .eq 7, 3), (67, .iconst (-1), 1), (68, .goto 5, 3), (71, .bipush (-2), 2), (73, .ireturn, 1)]
set_option maxRecDepth 100000 in
theorem T_X11_cell : ∀ q ∈ I_X11_cell, decode cX11_cell q.1 = .ok (q.2.1, q.2.2) := by decide +kernel
def f_X11_cell_j28 (σ : St) : Option (Int32 × St) :=
  (f_X11_fails 1 σ).bind fun q3 => some (q3.1, q3.2)
set_option maxHeartbeats 4000000 in
set_option maxRecDepth 100000 in
theorem w_X11_cell_j28 (X : Cx g RX11 cX11_cell 3 (some .int) p s m args meth c) (σ : St) {w : Int32 × St} (KR : ∀ (H : Heap) (locs : List Loc) (ls : Array Slot) (pc : Nat), Wd g s w.2 H locs → decode cX11_cell pc = .ok (.ireturn, 1) → W p l e (rmm 4 95) s m args below meth c H locs 0 0 Q (F0 m pc ls [.int (w.1)])) {H : Heap} {locs : List Loc} {ls : Array Slot} (Y : Wd g s σ H locs) (hl : lv_has ls 3 [(0, .ref (g.2.2 (101)))]) (h : f_X11_cell_j28 σ = some w) : W p l e (rmm 4 95) s m args below meth c H locs 0 0 Q (F0 m 28 ls []) := by
  unfold f_X11_cell_j28 at h
  refine lv_aload_n X.1 X.2.1 (dk T_X11_cell 16 rfl) rfl (lv_at hl 0 rfl) ?_
  refine lv_iconst (v := 1) X.1 X.2.1 (dk T_X11_cell 17 rfl) ic_1 ?_
  obtain ⟨q3, hq3, h⟩ := bs h
  refine gvI (rest := []) X Y (c_X11_fails 1 σ hq3) cb_X11_91 rfl hl.1 rfl rfl (Nat.le_of_ble_eq_true rfl) ⟨Nat.le_of_ble_eq_true rfl, Nat.le_of_ble_eq_true rfl⟩ (dk T_X11_cell 18 rfl) (fun H locs Y => ?_)
  obtain rfl := Option.some.inj h
  exact KR _ _ _ _ Y (dk T_X11_cell 19 rfl)
def f_X11_cell_0 (x1 : Int32) (x2 : Int32) (σ : St) : Option (Int32 × St) :=
  (f_X11_isSheet x1 (up σ 101 0 0)).bind fun q1 => if q1 = 0 then f_X11_cell_j28 (up σ 101 0 0) else (f_X11_cells x1 (up σ 101 0 0)).bind fun q4 => (f_X11_in x2 0 (q4 - 1)).bind fun q5 => if q5 = 0 then f_X11_cell_j28 (up σ 101 0 0) else (f_X11_looks x1 (up σ 101 0 0)).bind fun q7 => chk (inb x2 100) (if (q7 111 x2.toNatClampNeg) = (-1) then (f_X11_isUsable x1 x2 q7).bind fun q10 => if q10 = 0 then some ((-2), q7) else some ((-1), q7) else chk (inb x2 100) (some (q7 111 x2.toNatClampNeg, q7)))
set_option maxHeartbeats 4000000 in
set_option maxRecDepth 100000 in
theorem w_X11_cell_0 (X : Cx g RX11 cX11_cell 3 (some .int) p s m args meth c) (x1 : Int32) (x2 : Int32) (σ : St) {w : Int32 × St} (KR : ∀ (H : Heap) (locs : List Loc) (ls : Array Slot) (pc : Nat), Wd g s w.2 H locs → decode cX11_cell pc = .ok (.ireturn, 1) → W p l e (rmm 4 95) s m args below meth c H locs 0 0 Q (F0 m pc ls [.int (w.1)])) {H : Heap} {locs : List Loc} {ls : Array Slot} (Y : Wd g s σ H locs) (hl : lv_has ls 3 [(0, .ref (g.2.2 (101))), (1, .int (x1)), (2, .int (x2))]) (h : f_X11_cell_0 x1 x2 σ = some w) : W p l e (rmm 4 95) s m args below meth c H locs 0 0 Q (F0 m 0 ls []) := by
  unfold f_X11_cell_0 at h
  refine lv_aload_n X.1 X.2.1 (dk T_X11_cell 0 rfl) rfl (lv_at hl 0 rfl) ?_
  refine lv_iconst (v := 0) X.1 X.2.1 (dk T_X11_cell 1 rfl) ic_0 ?_
  refine gp X Y fp_X11_71 rfl (nar_int _) (dk T_X11_cell 2 rfl) (fun H locs Y => ?_)
  refine lv_aload_n X.1 X.2.1 (dk T_X11_cell 3 rfl) rfl (lv_at hl 0 rfl) ?_
  refine lv_iload_n X.1 X.2.1 (dk T_X11_cell 4 rfl) rfl (lv_at hl 1 rfl) ?_
  obtain ⟨q1, hq1, h⟩ := bs h
  refine gvI (rest := []) X Y (c_X11_isSheet x1 (up σ 101 0 0) hq1) cb_X11_155 rfl hl.1 rfl rfl (Nat.le_of_ble_eq_true rfl) ⟨Nat.le_of_ble_eq_true rfl, Nat.le_of_ble_eq_true rfl⟩ (dk T_X11_cell 5 rfl) (fun H locs Y => ?_)
  refine lv_if_eq (tgt := 28) X.1 X.2.1 (dk T_X11_cell 6 rfl) rfl (fun c2 => ?_) (fun c2 => ?_)
  · replace h := ipos c2 h
    exact w_X11_cell_j28 X (up σ 101 0 0) KR Y (lv_sub hl [0] rfl) h
  · replace h := ineg c2 h
    refine lv_iload_n X.1 X.2.1 (dk T_X11_cell 7 rfl) rfl (lv_at hl 2 rfl) ?_
    refine lv_iconst (v := 0) X.1 X.2.1 (dk T_X11_cell 8 rfl) ic_0 ?_
    refine lv_aload_n X.1 X.2.1 (dk T_X11_cell 9 rfl) rfl (lv_at hl 0 rfl) ?_
    refine lv_iload_n X.1 X.2.1 (dk T_X11_cell 10 rfl) rfl (lv_at hl 1 rfl) ?_
    obtain ⟨q4, hq4, h⟩ := bs h
    refine gvI (rest := [.int (0), .int (x2)]) X Y (c_X11_cells x1 (up σ 101 0 0) hq4) cb_X11_149 rfl hl.1 rfl rfl (Nat.le_of_ble_eq_true rfl) ⟨Nat.le_of_ble_eq_true rfl, Nat.le_of_ble_eq_true rfl⟩ (dk T_X11_cell 11 rfl) (fun H locs Y => ?_)
    refine lv_iconst (v := 1) X.1 X.2.1 (dk T_X11_cell 12 rfl) ic_1 ?_
    refine lv_isub X.1 X.2.1 (dk T_X11_cell 13 rfl) ?_
    obtain ⟨q5, hq5, h⟩ := bs h
    refine gsI (rest := []) X Y (c_X11_in x2 0 (q4 - 1) (up σ 101 0 0) hq5) cb_X11_75 hl.1 rfl rfl (Nat.le_of_ble_eq_true rfl) ⟨Nat.le_of_ble_eq_true rfl, Nat.le_of_ble_eq_true rfl⟩ (dk T_X11_cell 14 rfl) (fun H locs Y => ?_)
    refine lv_if_ne (tgt := 34) X.1 X.2.1 (dk T_X11_cell 15 rfl) rfl (fun c6 => ?_) (fun c6 => ?_)
    · replace h := ineg c6 h
      refine lv_aload_n X.1 X.2.1 (dk T_X11_cell 20 rfl) rfl (lv_at hl 0 rfl) ?_
      refine lv_iload_n X.1 X.2.1 (dk T_X11_cell 21 rfl) rfl (lv_at hl 1 rfl) ?_
      obtain ⟨q7, hq7, h⟩ := bs h
      refine gvV (rest := []) X Y (c_X11_looks x1 (up σ 101 0 0) hq7) cb_X11_145 rfl hl.1 rfl rfl (Nat.le_of_ble_eq_true rfl) ⟨Nat.le_of_ble_eq_true rfl, Nat.le_of_ble_eq_true rfl⟩ (dk T_X11_cell 22 rfl) (fun H locs Y => ?_)
      refine lv_aload_n X.1 X.2.1 (dk T_X11_cell 23 rfl) rfl (lv_at hl 0 rfl) ?_
      refine gg X Y fl_X11_37 rfl rfl (dk T_X11_cell 24 rfl) ?_
      refine lv_iload_n X.1 X.2.1 (dk T_X11_cell 25 rfl) rfl (lv_at hl 2 rfl) ?_
      obtain ⟨g8, h⟩ := gd h
      refine gil X Y rfl (inp g8) (dk T_X11_cell 26 rfl) ?_
      refine lv_iconst (v := (-1)) X.1 X.2.1 (dk T_X11_cell 27 rfl) ic_m1 ?_
      refine lv_icmp_eq (tgt := 58) X.1 X.2.1 (dk T_X11_cell 28 rfl) rfl (fun c9 => ?_) (fun c9 => ?_)
      · replace h := ipos c9 h
        refine lv_aload_n X.1 X.2.1 (dk T_X11_cell 34 rfl) rfl (lv_at hl 0 rfl) ?_
        refine lv_iload_n X.1 X.2.1 (dk T_X11_cell 35 rfl) rfl (lv_at hl 1 rfl) ?_
        refine lv_iload_n X.1 X.2.1 (dk T_X11_cell 36 rfl) rfl (lv_at hl 2 rfl) ?_
        obtain ⟨q10, hq10, h⟩ := bs h
        refine gvI (rest := []) X Y (c_X11_isUsable x1 x2 q7 hq10) cb_X11_142 rfl hl.1 rfl rfl (Nat.le_of_ble_eq_true rfl) ⟨Nat.le_of_ble_eq_true rfl, Nat.le_of_ble_eq_true rfl⟩ (dk T_X11_cell 37 rfl) (fun H locs Y => ?_)
        refine lv_if_eq (tgt := 71) X.1 X.2.1 (dk T_X11_cell 38 rfl) rfl (fun c11 => ?_) (fun c11 => ?_)
        · replace h := ipos c11 h
          refine lv_bipush (v := (-2)) X.1 X.2.1 (dk T_X11_cell 41 rfl) bp_m2 ?_
          obtain rfl := Option.some.inj h
          exact KR _ _ _ _ Y (dk T_X11_cell 42 rfl)
        · replace h := ineg c11 h
          refine lv_iconst (v := (-1)) X.1 X.2.1 (dk T_X11_cell 39 rfl) ic_m1 ?_
          refine lv_goto (tgt := 73) X.1 X.2.1 (dk T_X11_cell 40 rfl) rfl ?_
          obtain rfl := Option.some.inj h
          exact KR _ _ _ _ Y (dk T_X11_cell 42 rfl)
      · replace h := ineg c9 h
        refine lv_aload_n X.1 X.2.1 (dk T_X11_cell 29 rfl) rfl (lv_at hl 0 rfl) ?_
        refine gg X Y fl_X11_37 rfl rfl (dk T_X11_cell 30 rfl) ?_
        refine lv_iload_n X.1 X.2.1 (dk T_X11_cell 31 rfl) rfl (lv_at hl 2 rfl) ?_
        obtain ⟨g12, h⟩ := gd h
        refine gil X Y rfl (inp g12) (dk T_X11_cell 32 rfl) ?_
        refine lv_goto (tgt := 73) X.1 X.2.1 (dk T_X11_cell 33 rfl) rfl ?_
        obtain rfl := Option.some.inj h
        exact KR _ _ _ _ Y (dk T_X11_cell 42 rfl)
    · replace h := ipos c6 h
      exact w_X11_cell_j28 X (up σ 101 0 0) KR Y (lv_sub hl [0] rfl) h
def f_X11_cell (x1 : Int32) (x2 : Int32) (σ : St) : Option (Int32 × St) := f_X11_cell_0 x1 x2 σ
set_option maxHeartbeats 4000000 in
set_option maxRecDepth 100000 in
theorem c_X11_cell {l : Launch} {g : Geo} (x1 : Int32) (x2 : Int32) (σ : St) {w : Int32 × St} (h : f_X11_cell x1 x2 σ = some w) : CtI l yX11_cell cX11_cell 3 (some .int) (rmm 4 95) g [.ref (g.2.2 (101)), .int (x1), .int (x2)] σ w.1 w.2 := enI .int (by decide) rfl rfl (Nat.le_of_ble_eq_true rfl) (fun p e s m args below meth c Q X Y ls hl KR => w_X11_cell_0 X x1 x2 σ KR Y hl h)
def I_X11_isShape : List (Nat × Instr × Nat) := [(0, .iload_n 1, 1), (1, .iconst 0, 1), (2, .aload_n 0, 1), (3, .getfield 7, 3), (6, .iconst 1, 1), (7, .iaload, 1), (8, .iconst 1, 1), (9, .isub, 1), (10, .invokestatic 75, 3), (13, .ireturn, 1)]
set_option maxRecDepth 100000 in
theorem T_X11_isShape : ∀ q ∈ I_X11_isShape, decode cX11_isShape q.1 = .ok (q.2.1, q.2.2) := by decide +kernel
def f_X11_isShape_0 (x1 : Int32) (σ : St) : Option (Int32) :=
  chk (inb 1 761) ((f_X11_in x1 0 ((σ 102 (1 : Int32).toNatClampNeg) - 1)).bind fun q2 => some q2)
set_option maxHeartbeats 4000000 in
set_option maxRecDepth 100000 in
theorem w_X11_isShape_0 (X : Cx g RX11 cX11_isShape 2 (some .boolean) p s m args meth c) (x1 : Int32) (σ : St) {w : Int32} (KR : ∀ (H : Heap) (locs : List Loc) (ls : Array Slot) (pc : Nat), Wd g s σ H locs → decode cX11_isShape pc = .ok (.ireturn, 1) → W p l e (rmm 1 22) s m args below meth c H locs 0 0 Q (F0 m pc ls [.int (w)])) {H : Heap} {locs : List Loc} {ls : Array Slot} (Y : Wd g s σ H locs) (hl : lv_has ls 2 [(0, .ref (g.2.2 (101))), (1, .int (x1))]) (h : f_X11_isShape_0 x1 σ = some w) : W p l e (rmm 1 22) s m args below meth c H locs 0 0 Q (F0 m 0 ls []) := by
  unfold f_X11_isShape_0 at h
  refine lv_iload_n X.1 X.2.1 (dk T_X11_isShape 0 rfl) rfl (lv_at hl 1 rfl) ?_
  refine lv_iconst (v := 0) X.1 X.2.1 (dk T_X11_isShape 1 rfl) ic_0 ?_
  refine lv_aload_n X.1 X.2.1 (dk T_X11_isShape 2 rfl) rfl (lv_at hl 0 rfl) ?_
  refine gg X Y fl_X11_7 rfl rfl (dk T_X11_isShape 3 rfl) ?_
  refine lv_iconst (v := 1) X.1 X.2.1 (dk T_X11_isShape 4 rfl) ic_1 ?_
  obtain ⟨g1, h⟩ := gd h
  refine gil X Y rfl (inp g1) (dk T_X11_isShape 5 rfl) ?_
  refine lv_iconst (v := 1) X.1 X.2.1 (dk T_X11_isShape 6 rfl) ic_1 ?_
  refine lv_isub X.1 X.2.1 (dk T_X11_isShape 7 rfl) ?_
  obtain ⟨q2, hq2, h⟩ := bs h
  refine gsI (rest := []) X Y (c_X11_in x1 0 ((σ 102 (1 : Int32).toNatClampNeg) - 1) σ hq2) cb_X11_75 hl.1 rfl rfl (Nat.le_of_ble_eq_true rfl) ⟨Nat.le_of_ble_eq_true rfl, Nat.le_of_ble_eq_true rfl⟩ (dk T_X11_isShape 8 rfl) (fun H locs Y => ?_)
  obtain rfl := Option.some.inj h
  exact KR _ _ _ _ Y (dk T_X11_isShape 9 rfl)
def f_X11_isShape (x1 : Int32) (σ : St) : Option (Int32) := bz (f_X11_isShape_0 x1 σ)
set_option maxHeartbeats 4000000 in
set_option maxRecDepth 100000 in
theorem c_X11_isShape {l : Launch} {g : Geo} (x1 : Int32) (σ : St) {w : Int32} (h : f_X11_isShape x1 σ = some w) : CtI l yX11_isShape cX11_isShape 2 (some .boolean) (rmm 1 22) g [.ref (g.2.2 (101)), .int (x1)] σ w σ := by
  obtain ⟨h, hz⟩ := bz_s h
  exact enI .boolean (by decide) rfl (bz_n hz) (Nat.le_of_ble_eq_true rfl) (fun p e s m args below meth c Q X Y ls hl KR => w_X11_isShape_0 X x1 σ KR Y hl h)
def I_X11_bits : List (Nat × Instr × Nat) := [(0, .iconst 0, 1), (1, .istore_n 1, 1), (2, .iconst 0, 1), (3, .istore_n 2, 1), (4, .iload_n 2, 1), (5, .bipush 16, 2), (7, .if_icmp .ge 17, 3), (10, .iload_n 1, 1), (11, .iload_n 0, 1), (12, .iload_n 2, 1), (13, .ishr, 1), (14, .iconst 1, 1), (15, .iand, 1), (16, .iadd, 1), (17, .istore_n 1, 1), (18, .iinc 2 1, 3), (21, .goto (-17), 3), (24, .iload_n 1, 1), (25, .ireturn, 1)]
set_option maxRecDepth 100000 in
theorem T_X11_bits : ∀ q ∈ I_X11_bits, decode cX11_bits q.1 = .ok (q.2.1, q.2.2) := by decide +kernel
def f_X11_bits_l4 (x0 : Int32) (z : Int32 × Int32) : Option ((Int32 × Int32) ⊕ (Int32)) :=
  if 16 ≤ z.2 then some (.inr z.1) else some (.inl (z.1 + ((x0 >>> (z.2 &&& 31)) &&& 1), z.2 + 1))
set_option maxHeartbeats 4000000 in
set_option maxRecDepth 100000 in
theorem w_X11_bits_l4 (X : Cx g RX11 cX11_bits 3 (some .int) p s m args meth c) (x0 : Int32) (σ : St) {r : Int32} (KX0 : ∀ (v : Int32), r = v → ∀ (H : Heap) (locs : List Loc) (ls : Array Slot), Wd g s σ H locs → lv_has ls 3 [(1, .int (v))] → W p l e (rmm 0 0) s m args below meth c H locs 0 0 Q (F0 m 24 ls [])) : ∀ (n : Nat) (z : Int32 × Int32) {H : Heap} {locs : List Loc} {ls : Array Slot}, Wd g s σ H locs → lv_has ls 3 [(0, .int (x0)), (1, .int (z.1)), (2, .int (z.2))] → lp (f_X11_bits_l4 x0) n z = some r → W p l e (rmm 0 0) s m args below meth c H locs 0 0 Q (F0 m 4 ls []) := by
  intro n
  induction n with
  | zero => intro z H locs ls Y hl h; cases h
  | succ n ih =>
    intro z H locs ls Y hl h
    obtain ⟨w, h, hw⟩ := lps h
    have KB : ∀ (v0_ : Int32) (v1_ : Int32), w = .inl (v0_, v1_) → ∀ (H : Heap) (locs : List Loc) (ls : Array Slot), Wd g s σ H locs → lv_has ls 3 [(0, .int (x0)), (1, .int (v0_)), (2, .int (v1_))] → W p l e (rmm 0 0) s m args below meth c H locs 0 0 Q (F0 m 4 ls []) := fun v0_ v1_ e H locs ls Y hl => ih (v0_, v1_) Y hl (lpl hw e)
    have KX0 := fun (v : Int32) (e : w = .inr v) => KX0 v (lpr hw e)
    unfold f_X11_bits_l4 at h
    refine lv_iload_n X.1 X.2.1 (dk T_X11_bits 4 rfl) rfl (lv_at hl 2 rfl) ?_
    refine lv_bipush (v := 16) X.1 X.2.1 (dk T_X11_bits 5 rfl) bp_16 ?_
    refine lv_icmp_ge (tgt := 24) X.1 X.2.1 (dk T_X11_bits 6 rfl) rfl (fun c1 => ?_) (fun c1 => ?_)
    · replace h := ipos c1 h
      exact KX0 z.1 (Option.some.inj h).symm _ _ _ Y (lv_sub hl [1] rfl)
    · replace h := ineg c1 h
      refine lv_iload_n X.1 X.2.1 (dk T_X11_bits 7 rfl) rfl (lv_at hl 1 rfl) ?_
      refine lv_iload_n X.1 X.2.1 (dk T_X11_bits 8 rfl) rfl (lv_at hl 0 rfl) ?_
      refine lv_iload_n X.1 X.2.1 (dk T_X11_bits 9 rfl) rfl (lv_at hl 2 rfl) ?_
      refine lv_ishr X.1 X.2.1 (dk T_X11_bits 10 rfl) ?_
      refine lv_iconst (v := 1) X.1 X.2.1 (dk T_X11_bits 11 rfl) ic_1 ?_
      refine lv_iand X.1 X.2.1 (dk T_X11_bits 12 rfl) ?_
      refine lv_iadd X.1 X.2.1 (dk T_X11_bits 13 rfl) ?_
      refine lv_istore_n (lv' := [(1, .int (z.1 + ((x0 >>> (z.2 &&& 31)) &&& 1))), (0, .int (x0)), (2, .int (z.2))]) X.1 X.2.1 (dk T_X11_bits 14 rfl) rfl hl (Nat.le_of_ble_eq_true rfl) rfl (fun ls hl => ?_)
      refine lv_iinc (v := z.2 + 1) (lv' := [(2, .int (z.2 + 1)), (1, .int (z.1 + ((x0 >>> (z.2 &&& 31)) &&& 1))), (0, .int (x0))]) X.1 X.2.1 (dk T_X11_bits 15 rfl) hl (k := 2) rfl (icx ic_1) (Nat.le_of_ble_eq_true rfl) rfl (fun ls hl => ?_)
      refine lv_goto (tgt := 4) X.1 X.2.1 (dk T_X11_bits 16 rfl) rfl ?_
      exact KB (z.1 + ((x0 >>> (z.2 &&& 31)) &&& 1)) (z.2 + 1) (Option.some.inj h).symm _ _ _ Y (lv_sub hl [2, 1, 0] rfl)
def f_X11_bits_0 (x0 : Int32) : Option (Int32) :=
  (lp (f_X11_bits_l4 x0) FU (0, 0)).bind fun q2 => some q2
set_option maxHeartbeats 4000000 in
set_option maxRecDepth 100000 in
theorem w_X11_bits_0 (X : Cx g RX11 cX11_bits 3 (some .int) p s m args meth c) (x0 : Int32) (σ : St) {w : Int32} (KR : ∀ (H : Heap) (locs : List Loc) (ls : Array Slot) (pc : Nat), Wd g s σ H locs → decode cX11_bits pc = .ok (.ireturn, 1) → W p l e (rmm 0 0) s m args below meth c H locs 0 0 Q (F0 m pc ls [.int (w)])) {H : Heap} {locs : List Loc} {ls : Array Slot} (Y : Wd g s σ H locs) (hl : lv_has ls 3 [(0, .int (x0))]) (h : f_X11_bits_0 x0 = some w) : W p l e (rmm 0 0) s m args below meth c H locs 0 0 Q (F0 m 0 ls []) := by
  unfold f_X11_bits_0 at h
  refine lv_iconst (v := 0) X.1 X.2.1 (dk T_X11_bits 0 rfl) ic_0 ?_
  refine lv_istore_n (lv' := [(1, .int (0)), (0, .int (x0))]) X.1 X.2.1 (dk T_X11_bits 1 rfl) rfl hl (Nat.le_of_ble_eq_true rfl) rfl (fun ls hl => ?_)
  refine lv_iconst (v := 0) X.1 X.2.1 (dk T_X11_bits 2 rfl) ic_0 ?_
  refine lv_istore_n (lv' := [(2, .int (0)), (1, .int (0)), (0, .int (x0))]) X.1 X.2.1 (dk T_X11_bits 3 rfl) rfl hl (Nat.le_of_ble_eq_true rfl) rfl (fun ls hl => ?_)
  obtain ⟨q2, hq2, h⟩ := bs h
  refine w_X11_bits_l4 X x0 σ (fun v e H locs ls Y hl => ?_) FU (0, 0) Y (lv_sub hl [2, 1, 0] rfl) hq2
  · obtain rfl := e
    refine lv_iload_n X.1 X.2.1 (dk T_X11_bits 17 rfl) rfl (lv_at hl 0 rfl) ?_
    obtain rfl := Option.some.inj h
    exact KR _ _ _ _ Y (dk T_X11_bits 18 rfl)
def f_X11_bits (x0 : Int32) : Option (Int32) := f_X11_bits_0 x0
set_option maxHeartbeats 4000000 in
set_option maxRecDepth 100000 in
theorem c_X11_bits {l : Launch} {g : Geo} (x0 : Int32) (σ : St) {w : Int32} (h : f_X11_bits x0 = some w) : CtI l yX11_bits cX11_bits 3 (some .int) (rmm 0 0) g [.int (x0)] σ w σ := enI .int (by decide) rfl rfl (Nat.le_of_ble_eq_true rfl) (fun p e s m args below meth c Q X Y ls hl KR => w_X11_bits_0 X x0 σ KR Y hl h)
def I_X11_partsOf : List (Nat × Instr × Nat) := [(0, .iconst 0, 1), (1, .istore_n 2, 1), (2, .iconst 0, 1), (3, .istore_n 3, 1), (4, .iload_n 3, 1), (5, .aload_n 0, 1), (6, .getfield 7, 3), (9, .iconst 2, 1), (10, .iaload, 1), (11, .if_icmp .ge 31, 3), (14, .iload_n 2, 1), (15, .aload_n 0, 1), (16, .getfield 7, 3), (19, .sipush 661, 3), (22, .iload_n 3, 1), (23, .iadd, 1), (24, .iaload, 1), (25, .iload_n 1, 1), (26, .if_icmp .ne 7, 3), (29, .iconst 1, 1), (30, .goto 4, 3), (33, .iconst 0, 1), (34, .iadd, 1), (35, .istore_n 2, 1), (36, .iinc 3 1, 3), (39, .goto (-35), 3), (42, .iload_n 2, 1), (43, .ireturn, 1)]
set_option maxRecDepth 100000 in
theorem T_X11_partsOf : ∀ q ∈ I_X11_partsOf, decode cX11_partsOf q.1 = .ok (q.2.1, q.2.2) := by decide +kernel
def f_X11_partsOf_j34 (x1 : Int32) (x3 : Int32) (s0 : Int32) (s1 : Int32) (σ : St) : Option ((Int32 × Int32) ⊕ (Int32)) :=
  some (.inl (s1 + s0, x3 + 1))
set_option maxHeartbeats 4000000 in
set_option maxRecDepth 100000 in
theorem w_X11_partsOf_j34 (X : Cx g RX11 cX11_partsOf 4 (some .int) p s m args meth c) (x1 : Int32) (x3 : Int32) (s0 : Int32) (s1 : Int32) (σ : St) {w : (Int32 × Int32) ⊕ (Int32)} (KB : ∀ (v0_ : Int32) (v1_ : Int32), w = .inl (v0_, v1_) → ∀ (H : Heap) (locs : List Loc) (ls : Array Slot), Wd g s σ H locs → lv_has ls 4 [(0, .ref (g.2.2 (101))), (1, .int (x1)), (2, .int (v0_)), (3, .int (v1_))] → W p l e (rmm 0 0) s m args below meth c H locs 0 0 Q (F0 m 4 ls [])) (KX0 : ∀ (v : Int32), w = .inr v → ∀ (H : Heap) (locs : List Loc) (ls : Array Slot), Wd g s σ H locs → lv_has ls 4 [(2, .int (v))] → W p l e (rmm 0 0) s m args below meth c H locs 0 0 Q (F0 m 42 ls [])) {H : Heap} {locs : List Loc} {ls : Array Slot} (Y : Wd g s σ H locs) (hl : lv_has ls 4 [(0, .ref (g.2.2 (101))), (1, .int (x1)), (3, .int (x3))]) (h : f_X11_partsOf_j34 x1 x3 s0 s1 σ = some w) : W p l e (rmm 0 0) s m args below meth c H locs 0 0 Q (F0 m 34 ls [.int (s0), .int (s1)]) := by
  unfold f_X11_partsOf_j34 at h
  refine lv_iadd X.1 X.2.1 (dk T_X11_partsOf 22 rfl) ?_
  refine lv_istore_n (lv' := [(2, .int (s1 + s0)), (0, .ref (g.2.2 (101))), (1, .int (x1)), (3, .int (x3))]) X.1 X.2.1 (dk T_X11_partsOf 23 rfl) rfl hl (Nat.le_of_ble_eq_true rfl) rfl (fun ls hl => ?_)
  refine lv_iinc (v := x3 + 1) (lv' := [(3, .int (x3 + 1)), (2, .int (s1 + s0)), (0, .ref (g.2.2 (101))), (1, .int (x1))]) X.1 X.2.1 (dk T_X11_partsOf 24 rfl) hl (k := 3) rfl (icx ic_1) (Nat.le_of_ble_eq_true rfl) rfl (fun ls hl => ?_)
  refine lv_goto (tgt := 4) X.1 X.2.1 (dk T_X11_partsOf 25 rfl) rfl ?_
  exact KB (s1 + s0) (x3 + 1) (Option.some.inj h).symm _ _ _ Y (lv_sub hl [2, 3, 1, 0] rfl)
def f_X11_partsOf_l4 (x1 : Int32) (σ : St) (z : Int32 × Int32) : Option ((Int32 × Int32) ⊕ (Int32)) :=
  chk (inb 2 761) (if (σ 102 (2 : Int32).toNatClampNeg) ≤ z.2 then some (.inr z.1) else chk (inb (661 + z.2) 761) (if (σ 102 (661 + z.2).toNatClampNeg) = x1 then f_X11_partsOf_j34 x1 z.2 1 z.1 σ else f_X11_partsOf_j34 x1 z.2 0 z.1 σ))
set_option maxHeartbeats 4000000 in
set_option maxRecDepth 100000 in
theorem w_X11_partsOf_l4 (X : Cx g RX11 cX11_partsOf 4 (some .int) p s m args meth c) (x1 : Int32) (σ : St) {r : Int32} (KX0 : ∀ (v : Int32), r = v → ∀ (H : Heap) (locs : List Loc) (ls : Array Slot), Wd g s σ H locs → lv_has ls 4 [(2, .int (v))] → W p l e (rmm 0 0) s m args below meth c H locs 0 0 Q (F0 m 42 ls [])) : ∀ (n : Nat) (z : Int32 × Int32) {H : Heap} {locs : List Loc} {ls : Array Slot}, Wd g s σ H locs → lv_has ls 4 [(0, .ref (g.2.2 (101))), (1, .int (x1)), (2, .int (z.1)), (3, .int (z.2))] → lp (f_X11_partsOf_l4 x1 σ) n z = some r → W p l e (rmm 0 0) s m args below meth c H locs 0 0 Q (F0 m 4 ls []) := by
  intro n
  induction n with
  | zero => intro z H locs ls Y hl h; cases h
  | succ n ih =>
    intro z H locs ls Y hl h
    obtain ⟨w, h, hw⟩ := lps h
    have KB : ∀ (v0_ : Int32) (v1_ : Int32), w = .inl (v0_, v1_) → ∀ (H : Heap) (locs : List Loc) (ls : Array Slot), Wd g s σ H locs → lv_has ls 4 [(0, .ref (g.2.2 (101))), (1, .int (x1)), (2, .int (v0_)), (3, .int (v1_))] → W p l e (rmm 0 0) s m args below meth c H locs 0 0 Q (F0 m 4 ls []) := fun v0_ v1_ e H locs ls Y hl => ih (v0_, v1_) Y hl (lpl hw e)
    have KX0 := fun (v : Int32) (e : w = .inr v) => KX0 v (lpr hw e)
    unfold f_X11_partsOf_l4 at h
    refine lv_iload_n X.1 X.2.1 (dk T_X11_partsOf 4 rfl) rfl (lv_at hl 3 rfl) ?_
    refine lv_aload_n X.1 X.2.1 (dk T_X11_partsOf 5 rfl) rfl (lv_at hl 0 rfl) ?_
    refine gg X Y fl_X11_7 rfl rfl (dk T_X11_partsOf 6 rfl) ?_
    refine lv_iconst (v := 2) X.1 X.2.1 (dk T_X11_partsOf 7 rfl) ic_2 ?_
    obtain ⟨g1, h⟩ := gd h
    refine gil X Y rfl (inp g1) (dk T_X11_partsOf 8 rfl) ?_
    refine lv_icmp_ge (tgt := 42) X.1 X.2.1 (dk T_X11_partsOf 9 rfl) rfl (fun c2 => ?_) (fun c2 => ?_)
    · replace h := ipos c2 h
      exact KX0 z.1 (Option.some.inj h).symm _ _ _ Y (lv_sub hl [2] rfl)
    · replace h := ineg c2 h
      refine lv_iload_n X.1 X.2.1 (dk T_X11_partsOf 10 rfl) rfl (lv_at hl 2 rfl) ?_
      refine lv_aload_n X.1 X.2.1 (dk T_X11_partsOf 11 rfl) rfl (lv_at hl 0 rfl) ?_
      refine gg X Y fl_X11_7 rfl rfl (dk T_X11_partsOf 12 rfl) ?_
      refine lv_sipush (v := 661) X.1 X.2.1 (dk T_X11_partsOf 13 rfl) sp_661 ?_
      refine lv_iload_n X.1 X.2.1 (dk T_X11_partsOf 14 rfl) rfl (lv_at hl 3 rfl) ?_
      refine lv_iadd X.1 X.2.1 (dk T_X11_partsOf 15 rfl) ?_
      obtain ⟨g3, h⟩ := gd h
      refine gil X Y rfl (inp g3) (dk T_X11_partsOf 16 rfl) ?_
      refine lv_iload_n X.1 X.2.1 (dk T_X11_partsOf 17 rfl) rfl (lv_at hl 1 rfl) ?_
      refine lv_icmp_ne (tgt := 33) X.1 X.2.1 (dk T_X11_partsOf 18 rfl) rfl (fun c4 => ?_) (fun c4 => ?_)
      · replace h := ineg c4 h
        refine lv_iconst (v := 0) X.1 X.2.1 (dk T_X11_partsOf 21 rfl) ic_0 ?_
        exact w_X11_partsOf_j34 X x1 z.2 0 z.1 σ KB KX0 Y (lv_sub hl [0, 1, 3] rfl) h
      · replace h := ipos c4 h
        refine lv_iconst (v := 1) X.1 X.2.1 (dk T_X11_partsOf 19 rfl) ic_1 ?_
        refine lv_goto (tgt := 34) X.1 X.2.1 (dk T_X11_partsOf 20 rfl) rfl ?_
        exact w_X11_partsOf_j34 X x1 z.2 1 z.1 σ KB KX0 Y (lv_sub hl [0, 1, 3] rfl) h
def f_X11_partsOf_0 (x1 : Int32) (σ : St) : Option (Int32) :=
  (lp (f_X11_partsOf_l4 x1 σ) FU (0, 0)).bind fun q5 => some q5
set_option maxHeartbeats 4000000 in
set_option maxRecDepth 100000 in
theorem w_X11_partsOf_0 (X : Cx g RX11 cX11_partsOf 4 (some .int) p s m args meth c) (x1 : Int32) (σ : St) {w : Int32} (KR : ∀ (H : Heap) (locs : List Loc) (ls : Array Slot) (pc : Nat), Wd g s σ H locs → decode cX11_partsOf pc = .ok (.ireturn, 1) → W p l e (rmm 0 0) s m args below meth c H locs 0 0 Q (F0 m pc ls [.int (w)])) {H : Heap} {locs : List Loc} {ls : Array Slot} (Y : Wd g s σ H locs) (hl : lv_has ls 4 [(0, .ref (g.2.2 (101))), (1, .int (x1))]) (h : f_X11_partsOf_0 x1 σ = some w) : W p l e (rmm 0 0) s m args below meth c H locs 0 0 Q (F0 m 0 ls []) := by
  unfold f_X11_partsOf_0 at h
  refine lv_iconst (v := 0) X.1 X.2.1 (dk T_X11_partsOf 0 rfl) ic_0 ?_
  refine lv_istore_n (lv' := [(2, .int (0)), (0, .ref (g.2.2 (101))), (1, .int (x1))]) X.1 X.2.1 (dk T_X11_partsOf 1 rfl) rfl hl (Nat.le_of_ble_eq_true rfl) rfl (fun ls hl => ?_)
  refine lv_iconst (v := 0) X.1 X.2.1 (dk T_X11_partsOf 2 rfl) ic_0 ?_
  refine lv_istore_n (lv' := [(3, .int (0)), (2, .int (0)), (0, .ref (g.2.2 (101))), (1, .int (x1))]) X.1 X.2.1 (dk T_X11_partsOf 3 rfl) rfl hl (Nat.le_of_ble_eq_true rfl) rfl (fun ls hl => ?_)
  obtain ⟨q5, hq5, h⟩ := bs h
  refine w_X11_partsOf_l4 X x1 σ (fun v e H locs ls Y hl => ?_) FU (0, 0) Y (lv_sub hl [2, 3, 1, 0] rfl) hq5
  · obtain rfl := e
    refine lv_iload_n X.1 X.2.1 (dk T_X11_partsOf 26 rfl) rfl (lv_at hl 0 rfl) ?_
    obtain rfl := Option.some.inj h
    exact KR _ _ _ _ Y (dk T_X11_partsOf 27 rfl)
def f_X11_partsOf (x1 : Int32) (σ : St) : Option (Int32) := f_X11_partsOf_0 x1 σ
set_option maxHeartbeats 4000000 in
set_option maxRecDepth 100000 in
theorem c_X11_partsOf {l : Launch} {g : Geo} (x1 : Int32) (σ : St) {w : Int32} (h : f_X11_partsOf x1 σ = some w) : CtI l yX11_partsOf cX11_partsOf 4 (some .int) (rmm 0 0) g [.ref (g.2.2 (101)), .int (x1)] σ w σ := enI .int (by decide) rfl rfl (Nat.le_of_ble_eq_true rfl) (fun p e s m args below meth c Q X Y ls hl KR => w_X11_partsOf_0 X x1 σ KR Y hl h)
def I_X11_areAlike : List (Nat × Instr × Nat) := [(0, .aload_n 0, 1), (1, .iload_n 1, 1), (2, .iload_n 2, 1), (3, .invokevirtual 126, 3), (6, .aload_n 0, 1), (7, .iload_n 1, 1), (8, .iload_n 3, 1), (9, .invokevirtual 126, 3), (12, .if_icmp .ne 37, 3), (15, .aload_n 0, 1), (16, .iload_n 1, 1), (17, .iload_n 2, 1), (18, .invokevirtual 130, 3), (21, .aload_n 0, 1), (22, .iload_n 1, 1), (23, .iload_n 3, 1), (24, .invokevirtual 130, 3), (27, .if_icmp .ne 22, 3), (30, .aload_n 0, 1), (31, .iload_n 1, 1), (32, .iload_n 2, 1), (33, .invokevirtual 136, 3), (36, .aload_n 0, 1), (37, .iload_n 1, 1), (38, .iload_n 3, 1), (39, .invokevirtual 136, 3), (42, .if_icmp .ne 7, 3), (45, .iconst 1, 1), (46, .goto 4, 3), (49, .iconst 0, 1), (50, .ireturn, 1)]
set_option maxRecDepth 100000 in
theorem T_X11_areAlike : ∀ q ∈ I_X11_areAlike, decode cX11_areAlike q.1 = .ok (q.2.1, q.2.2) := by decide +kernel
def f_X11_areAlike_0 (x1 : Int32) (x2 : Int32) (x3 : Int32) (σ : St) : Option (Int32) :=
  (f_X11_turnedColumns x1 x2 σ).bind fun q1 => (f_X11_turnedColumns x1 x3 σ).bind fun q2 => if q1 = q2 then (f_X11_turnedRows x1 x2 σ).bind fun q4 => (f_X11_turnedRows x1 x3 σ).bind fun q5 => if q4 = q5 then (f_X11_turnedSet x1 x2 σ).bind fun q7 => (f_X11_turnedSet x1 x3 σ).bind fun q8 => if q7 = q8 then some 1 else some 0 else some 0 else some 0
set_option maxHeartbeats 4000000 in
set_option maxRecDepth 100000 in
theorem w_X11_areAlike_0 (X : Cx g RX11 cX11_areAlike 4 (some .boolean) p s m args meth c) (x1 : Int32) (x2 : Int32) (x3 : Int32) (σ : St) {w : Int32} (KR : ∀ (H : Heap) (locs : List Loc) (ls : Array Slot) (pc : Nat), Wd g s σ H locs → decode cX11_areAlike pc = .ok (.ireturn, 1) → W p l e (rmm 3 71) s m args below meth c H locs 0 0 Q (F0 m pc ls [.int (w)])) {H : Heap} {locs : List Loc} {ls : Array Slot} (Y : Wd g s σ H locs) (hl : lv_has ls 4 [(0, .ref (g.2.2 (101))), (1, .int (x1)), (2, .int (x2)), (3, .int (x3))]) (h : f_X11_areAlike_0 x1 x2 x3 σ = some w) : W p l e (rmm 3 71) s m args below meth c H locs 0 0 Q (F0 m 0 ls []) := by
  unfold f_X11_areAlike_0 at h
  refine lv_aload_n X.1 X.2.1 (dk T_X11_areAlike 0 rfl) rfl (lv_at hl 0 rfl) ?_
  refine lv_iload_n X.1 X.2.1 (dk T_X11_areAlike 1 rfl) rfl (lv_at hl 1 rfl) ?_
  refine lv_iload_n X.1 X.2.1 (dk T_X11_areAlike 2 rfl) rfl (lv_at hl 2 rfl) ?_
  obtain ⟨q1, hq1, h⟩ := bs h
  refine gvI (rest := []) X Y (c_X11_turnedColumns x1 x2 σ hq1) cb_X11_126 rfl hl.1 rfl rfl (Nat.le_of_ble_eq_true rfl) ⟨Nat.le_of_ble_eq_true rfl, Nat.le_of_ble_eq_true rfl⟩ (dk T_X11_areAlike 3 rfl) (fun H locs Y => ?_)
  refine lv_aload_n X.1 X.2.1 (dk T_X11_areAlike 4 rfl) rfl (lv_at hl 0 rfl) ?_
  refine lv_iload_n X.1 X.2.1 (dk T_X11_areAlike 5 rfl) rfl (lv_at hl 1 rfl) ?_
  refine lv_iload_n X.1 X.2.1 (dk T_X11_areAlike 6 rfl) rfl (lv_at hl 3 rfl) ?_
  obtain ⟨q2, hq2, h⟩ := bs h
  refine gvI (rest := [.int (q1)]) X Y (c_X11_turnedColumns x1 x3 σ hq2) cb_X11_126 rfl hl.1 rfl rfl (Nat.le_of_ble_eq_true rfl) ⟨Nat.le_of_ble_eq_true rfl, Nat.le_of_ble_eq_true rfl⟩ (dk T_X11_areAlike 7 rfl) (fun H locs Y => ?_)
  refine lv_icmp_ne (tgt := 49) X.1 X.2.1 (dk T_X11_areAlike 8 rfl) rfl (fun c3 => ?_) (fun c3 => ?_)
  · replace h := ineg c3 h
    refine lv_iconst (v := 0) X.1 X.2.1 (dk T_X11_areAlike 29 rfl) ic_0 ?_
    obtain rfl := Option.some.inj h
    exact KR _ _ _ _ Y (dk T_X11_areAlike 30 rfl)
  · replace h := ipos c3 h
    refine lv_aload_n X.1 X.2.1 (dk T_X11_areAlike 9 rfl) rfl (lv_at hl 0 rfl) ?_
    refine lv_iload_n X.1 X.2.1 (dk T_X11_areAlike 10 rfl) rfl (lv_at hl 1 rfl) ?_
    refine lv_iload_n X.1 X.2.1 (dk T_X11_areAlike 11 rfl) rfl (lv_at hl 2 rfl) ?_
    obtain ⟨q4, hq4, h⟩ := bs h
    refine gvI (rest := []) X Y (c_X11_turnedRows x1 x2 σ hq4) cb_X11_130 rfl hl.1 rfl rfl (Nat.le_of_ble_eq_true rfl) ⟨Nat.le_of_ble_eq_true rfl, Nat.le_of_ble_eq_true rfl⟩ (dk T_X11_areAlike 12 rfl) (fun H locs Y => ?_)
    refine lv_aload_n X.1 X.2.1 (dk T_X11_areAlike 13 rfl) rfl (lv_at hl 0 rfl) ?_
    refine lv_iload_n X.1 X.2.1 (dk T_X11_areAlike 14 rfl) rfl (lv_at hl 1 rfl) ?_
    refine lv_iload_n X.1 X.2.1 (dk T_X11_areAlike 15 rfl) rfl (lv_at hl 3 rfl) ?_
    obtain ⟨q5, hq5, h⟩ := bs h
    refine gvI (rest := [.int (q4)]) X Y (c_X11_turnedRows x1 x3 σ hq5) cb_X11_130 rfl hl.1 rfl rfl (Nat.le_of_ble_eq_true rfl) ⟨Nat.le_of_ble_eq_true rfl, Nat.le_of_ble_eq_true rfl⟩ (dk T_X11_areAlike 16 rfl) (fun H locs Y => ?_)
    refine lv_icmp_ne (tgt := 49) X.1 X.2.1 (dk T_X11_areAlike 17 rfl) rfl (fun c6 => ?_) (fun c6 => ?_)
    · replace h := ineg c6 h
      refine lv_iconst (v := 0) X.1 X.2.1 (dk T_X11_areAlike 29 rfl) ic_0 ?_
      obtain rfl := Option.some.inj h
      exact KR _ _ _ _ Y (dk T_X11_areAlike 30 rfl)
    · replace h := ipos c6 h
      refine lv_aload_n X.1 X.2.1 (dk T_X11_areAlike 18 rfl) rfl (lv_at hl 0 rfl) ?_
      refine lv_iload_n X.1 X.2.1 (dk T_X11_areAlike 19 rfl) rfl (lv_at hl 1 rfl) ?_
      refine lv_iload_n X.1 X.2.1 (dk T_X11_areAlike 20 rfl) rfl (lv_at hl 2 rfl) ?_
      obtain ⟨q7, hq7, h⟩ := bs h
      refine gvI (rest := []) X Y (c_X11_turnedSet x1 x2 σ hq7) cb_X11_136 rfl hl.1 rfl rfl (Nat.le_of_ble_eq_true rfl) ⟨Nat.le_of_ble_eq_true rfl, Nat.le_of_ble_eq_true rfl⟩ (dk T_X11_areAlike 21 rfl) (fun H locs Y => ?_)
      refine lv_aload_n X.1 X.2.1 (dk T_X11_areAlike 22 rfl) rfl (lv_at hl 0 rfl) ?_
      refine lv_iload_n X.1 X.2.1 (dk T_X11_areAlike 23 rfl) rfl (lv_at hl 1 rfl) ?_
      refine lv_iload_n X.1 X.2.1 (dk T_X11_areAlike 24 rfl) rfl (lv_at hl 3 rfl) ?_
      obtain ⟨q8, hq8, h⟩ := bs h
      refine gvI (rest := [.int (q7)]) X Y (c_X11_turnedSet x1 x3 σ hq8) cb_X11_136 rfl hl.1 rfl rfl (Nat.le_of_ble_eq_true rfl) ⟨Nat.le_of_ble_eq_true rfl, Nat.le_of_ble_eq_true rfl⟩ (dk T_X11_areAlike 25 rfl) (fun H locs Y => ?_)
      refine lv_icmp_ne (tgt := 49) X.1 X.2.1 (dk T_X11_areAlike 26 rfl) rfl (fun c9 => ?_) (fun c9 => ?_)
      · replace h := ineg c9 h
        refine lv_iconst (v := 0) X.1 X.2.1 (dk T_X11_areAlike 29 rfl) ic_0 ?_
        obtain rfl := Option.some.inj h
        exact KR _ _ _ _ Y (dk T_X11_areAlike 30 rfl)
      · replace h := ipos c9 h
        refine lv_iconst (v := 1) X.1 X.2.1 (dk T_X11_areAlike 27 rfl) ic_1 ?_
        refine lv_goto (tgt := 50) X.1 X.2.1 (dk T_X11_areAlike 28 rfl) rfl ?_
        obtain rfl := Option.some.inj h
        exact KR _ _ _ _ Y (dk T_X11_areAlike 30 rfl)
def f_X11_areAlike (x1 : Int32) (x2 : Int32) (x3 : Int32) (σ : St) : Option (Int32) := bz (f_X11_areAlike_0 x1 x2 x3 σ)
set_option maxHeartbeats 4000000 in
set_option maxRecDepth 100000 in
theorem c_X11_areAlike {l : Launch} {g : Geo} (x1 : Int32) (x2 : Int32) (x3 : Int32) (σ : St) {w : Int32} (h : f_X11_areAlike x1 x2 x3 σ = some w) : CtI l yX11_areAlike cX11_areAlike 4 (some .boolean) (rmm 3 71) g [.ref (g.2.2 (101)), .int (x1), .int (x2), .int (x3)] σ w σ := by
  obtain ⟨h, hz⟩ := bz_s h
  exact enI .boolean (by decide) rfl (bz_n hz) (Nat.le_of_ble_eq_true rfl) (fun p e s m args below meth c Q X Y ls hl KR => w_X11_areAlike_0 X x1 x2 x3 σ KR Y hl h)
def I_X11_differentTurns : List (Nat × Instr × Nat) := [(0, .iconst 0, 1), (1, .istore_n 2, 1), (2, .iconst 0, 1), (3, .istore_n 3, 1), (4, .iload_n 3, 1), (5, .iconst 4, 1), (6, .if_icmp .ge 63, 3), (9, .iconst 1, 1), (10, .istore 4, 2), (12, .iconst 0, 1), (13, .istore 5, 2), (15, .iload 5, 2), (17, .iload_n 3, 1), (18, .if_icmp .ge 32, 3), (21, .iload 4, 2), (23, .ifCond .eq 18, 3), (26, .aload_n 0, 1), (27, .iload_n 1, 1), (28, .iload 5, 2), (30, .iload_n 3, 1), (31, .invokevirtual 185, 3), (34, .ifCond .ne 7, 3), (37, .iconst 1, 1), (38, .goto 4, 3), (41, .iconst 0, 1), (42, .istore 4, 2), (44, .iinc 5 1, 3), (47, .goto (-32), 3), (50, .iload_n 2, 1), (51, .iload 4, 2), (53, .ifCond .eq 7, 3), (56, .iconst 1, 1), (57, .goto 4, 3), (60, .iconst 0, 1), (61, .iadd, 1), (62, .istore_n 2, 1), (63, .iinc 3 1, 3), (66, .goto (-62), 3), (69, .iload_n 2, 1), (70, .ireturn, 1)]
set_option maxRecDepth 100000 in
theorem T_X11_differentTurns : ∀ q ∈ I_X11_differentTurns, decode cX11_differentTurns q.1 = .ok (q.2.1, q.2.2) := by decide +kernel
def f_X11_differentTurns_j42 (x1 : Int32) (x2 : Int32) (x3 : Int32) (x5 : Int32) (s0 : Int32) (σ : St) : Option ((Int32 × Int32) ⊕ (Int32)) :=
  some (.inl (s0, x5 + 1))
set_option maxHeartbeats 4000000 in
set_option maxRecDepth 100000 in
theorem w_X11_differentTurns_j42 (X : Cx g RX11 cX11_differentTurns 6 (some .int) p s m args meth c) (x1 : Int32) (x2 : Int32) (x3 : Int32) (x5 : Int32) (s0 : Int32) (σ : St) {w : (Int32 × Int32) ⊕ (Int32)} (KB : ∀ (v0_ : Int32) (v1_ : Int32), w = .inl (v0_, v1_) → ∀ (H : Heap) (locs : List Loc) (ls : Array Slot), Wd g s σ H locs → lv_has ls 6 [(0, .ref (g.2.2 (101))), (1, .int (x1)), (2, .int (x2)), (3, .int (x3)), (4, .int (v0_)), (5, .int (v1_))] → W p l e (rmm 4 94) s m args below meth c H locs 0 0 Q (F0 m 15 ls [])) (KX0 : ∀ (v : Int32), w = .inr v → ∀ (H : Heap) (locs : List Loc) (ls : Array Slot), Wd g s σ H locs → lv_has ls 6 [(0, .ref (g.2.2 (101))), (1, .int (x1)), (2, .int (x2)), (3, .int (x3)), (4, .int (v))] → W p l e (rmm 4 94) s m args below meth c H locs 0 0 Q (F0 m 50 ls [])) {H : Heap} {locs : List Loc} {ls : Array Slot} (Y : Wd g s σ H locs) (hl : lv_has ls 6 [(0, .ref (g.2.2 (101))), (1, .int (x1)), (2, .int (x2)), (3, .int (x3)), (5, .int (x5))]) (h : f_X11_differentTurns_j42 x1 x2 x3 x5 s0 σ = some w) : W p l e (rmm 4 94) s m args below meth c H locs 0 0 Q (F0 m 42 ls [.int (s0)]) := by
  unfold f_X11_differentTurns_j42 at h
  refine lv_istore (lv' := [(4, .int (s0)), (0, .ref (g.2.2 (101))), (1, .int (x1)), (2, .int (x2)), (3, .int (x3)), (5, .int (x5))]) X.1 X.2.1 (dk T_X11_differentTurns 25 rfl) hl (Nat.le_of_ble_eq_true rfl) rfl (fun ls hl => ?_)
  refine lv_iinc (v := x5 + 1) (lv' := [(5, .int (x5 + 1)), (4, .int (s0)), (0, .ref (g.2.2 (101))), (1, .int (x1)), (2, .int (x2)), (3, .int (x3))]) X.1 X.2.1 (dk T_X11_differentTurns 26 rfl) hl (k := 5) rfl (icx ic_1) (Nat.le_of_ble_eq_true rfl) rfl (fun ls hl => ?_)
  refine lv_goto (tgt := 15) X.1 X.2.1 (dk T_X11_differentTurns 27 rfl) rfl ?_
  exact KB s0 (x5 + 1) (Option.some.inj h).symm _ _ _ Y (lv_sub hl [2, 3, 4, 5, 1, 0] rfl)
def f_X11_differentTurns_j41 (x1 : Int32) (x2 : Int32) (x3 : Int32) (x5 : Int32) (σ : St) : Option ((Int32 × Int32) ⊕ (Int32)) :=
  f_X11_differentTurns_j42 x1 x2 x3 x5 0 σ
set_option maxHeartbeats 4000000 in
set_option maxRecDepth 100000 in
theorem w_X11_differentTurns_j41 (X : Cx g RX11 cX11_differentTurns 6 (some .int) p s m args meth c) (x1 : Int32) (x2 : Int32) (x3 : Int32) (x5 : Int32) (σ : St) {w : (Int32 × Int32) ⊕ (Int32)} (KB : ∀ (v0_ : Int32) (v1_ : Int32), w = .inl (v0_, v1_) → ∀ (H : Heap) (locs : List Loc) (ls : Array Slot), Wd g s σ H locs → lv_has ls 6 [(0, .ref (g.2.2 (101))), (1, .int (x1)), (2, .int (x2)), (3, .int (x3)), (4, .int (v0_)), (5, .int (v1_))] → W p l e (rmm 4 94) s m args below meth c H locs 0 0 Q (F0 m 15 ls [])) (KX0 : ∀ (v : Int32), w = .inr v → ∀ (H : Heap) (locs : List Loc) (ls : Array Slot), Wd g s σ H locs → lv_has ls 6 [(0, .ref (g.2.2 (101))), (1, .int (x1)), (2, .int (x2)), (3, .int (x3)), (4, .int (v))] → W p l e (rmm 4 94) s m args below meth c H locs 0 0 Q (F0 m 50 ls [])) {H : Heap} {locs : List Loc} {ls : Array Slot} (Y : Wd g s σ H locs) (hl : lv_has ls 6 [(0, .ref (g.2.2 (101))), (1, .int (x1)), (2, .int (x2)), (3, .int (x3)), (5, .int (x5))]) (h : f_X11_differentTurns_j41 x1 x2 x3 x5 σ = some w) : W p l e (rmm 4 94) s m args below meth c H locs 0 0 Q (F0 m 41 ls []) := by
  unfold f_X11_differentTurns_j41 at h
  refine lv_iconst (v := 0) X.1 X.2.1 (dk T_X11_differentTurns 24 rfl) ic_0 ?_
  exact w_X11_differentTurns_j42 X x1 x2 x3 x5 0 σ KB KX0 Y (lv_sub hl [0, 1, 2, 3, 4] rfl) h
def f_X11_differentTurns_l15 (x1 : Int32) (x2 : Int32) (x3 : Int32) (σ : St) (z : Int32 × Int32) : Option ((Int32 × Int32) ⊕ (Int32)) :=
  if x3 ≤ z.2 then some (.inr z.1) else if z.1 = 0 then f_X11_differentTurns_j41 x1 x2 x3 z.2 σ else (f_X11_areAlike x1 z.2 x3 σ).bind fun q4 => if q4 = 0 then f_X11_differentTurns_j42 x1 x2 x3 z.2 1 σ else f_X11_differentTurns_j41 x1 x2 x3 z.2 σ
set_option maxHeartbeats 4000000 in
set_option maxRecDepth 100000 in
theorem w_X11_differentTurns_l15 (X : Cx g RX11 cX11_differentTurns 6 (some .int) p s m args meth c) (x1 : Int32) (x2 : Int32) (x3 : Int32) (σ : St) {r : Int32} (KX0 : ∀ (v : Int32), r = v → ∀ (H : Heap) (locs : List Loc) (ls : Array Slot), Wd g s σ H locs → lv_has ls 6 [(0, .ref (g.2.2 (101))), (1, .int (x1)), (2, .int (x2)), (3, .int (x3)), (4, .int (v))] → W p l e (rmm 4 94) s m args below meth c H locs 0 0 Q (F0 m 50 ls [])) : ∀ (n : Nat) (z : Int32 × Int32) {H : Heap} {locs : List Loc} {ls : Array Slot}, Wd g s σ H locs → lv_has ls 6 [(0, .ref (g.2.2 (101))), (1, .int (x1)), (2, .int (x2)), (3, .int (x3)), (4, .int (z.1)), (5, .int (z.2))] → lp (f_X11_differentTurns_l15 x1 x2 x3 σ) n z = some r → W p l e (rmm 4 94) s m args below meth c H locs 0 0 Q (F0 m 15 ls []) := by
  intro n
  induction n with
  | zero => intro z H locs ls Y hl h; cases h
  | succ n ih =>
    intro z H locs ls Y hl h
    obtain ⟨w, h, hw⟩ := lps h
    have KB : ∀ (v0_ : Int32) (v1_ : Int32), w = .inl (v0_, v1_) → ∀ (H : Heap) (locs : List Loc) (ls : Array Slot), Wd g s σ H locs → lv_has ls 6 [(0, .ref (g.2.2 (101))), (1, .int (x1)), (2, .int (x2)), (3, .int (x3)), (4, .int (v0_)), (5, .int (v1_))] → W p l e (rmm 4 94) s m args below meth c H locs 0 0 Q (F0 m 15 ls []) := fun v0_ v1_ e H locs ls Y hl => ih (v0_, v1_) Y hl (lpl hw e)
    have KX0 := fun (v : Int32) (e : w = .inr v) => KX0 v (lpr hw e)
    unfold f_X11_differentTurns_l15 at h
    refine lv_iload X.1 X.2.1 (dk T_X11_differentTurns 11 rfl) (lv_at hl 5 rfl) ?_
    refine lv_iload_n X.1 X.2.1 (dk T_X11_differentTurns 12 rfl) rfl (lv_at hl 3 rfl) ?_
    refine lv_icmp_ge (tgt := 50) X.1 X.2.1 (dk T_X11_differentTurns 13 rfl) rfl (fun c2 => ?_) (fun c2 => ?_)
    · replace h := ipos c2 h
      exact KX0 z.1 (Option.some.inj h).symm _ _ _ Y (lv_sub hl [0, 1, 2, 3, 4] rfl)
    · replace h := ineg c2 h
      refine lv_iload X.1 X.2.1 (dk T_X11_differentTurns 14 rfl) (lv_at hl 4 rfl) ?_
      refine lv_if_eq (tgt := 41) X.1 X.2.1 (dk T_X11_differentTurns 15 rfl) rfl (fun c3 => ?_) (fun c3 => ?_)
      · replace h := ipos c3 h
        exact w_X11_differentTurns_j41 X x1 x2 x3 z.2 σ KB KX0 Y (lv_sub hl [0, 1, 2, 3, 5] rfl) h
      · replace h := ineg c3 h
        refine lv_aload_n X.1 X.2.1 (dk T_X11_differentTurns 16 rfl) rfl (lv_at hl 0 rfl) ?_
        refine lv_iload_n X.1 X.2.1 (dk T_X11_differentTurns 17 rfl) rfl (lv_at hl 1 rfl) ?_
        refine lv_iload X.1 X.2.1 (dk T_X11_differentTurns 18 rfl) (lv_at hl 5 rfl) ?_
        refine lv_iload_n X.1 X.2.1 (dk T_X11_differentTurns 19 rfl) rfl (lv_at hl 3 rfl) ?_
        obtain ⟨q4, hq4, h⟩ := bs h
        refine gvI (rest := []) X Y (c_X11_areAlike x1 z.2 x3 σ hq4) cb_X11_185 rfl hl.1 rfl rfl (Nat.le_of_ble_eq_true rfl) ⟨Nat.le_of_ble_eq_true rfl, Nat.le_of_ble_eq_true rfl⟩ (dk T_X11_differentTurns 20 rfl) (fun H locs Y => ?_)
        refine lv_if_ne (tgt := 41) X.1 X.2.1 (dk T_X11_differentTurns 21 rfl) rfl (fun c5 => ?_) (fun c5 => ?_)
        · replace h := ineg c5 h
          exact w_X11_differentTurns_j41 X x1 x2 x3 z.2 σ KB KX0 Y (lv_sub hl [0, 1, 2, 3, 5] rfl) h
        · replace h := ipos c5 h
          refine lv_iconst (v := 1) X.1 X.2.1 (dk T_X11_differentTurns 22 rfl) ic_1 ?_
          refine lv_goto (tgt := 42) X.1 X.2.1 (dk T_X11_differentTurns 23 rfl) rfl ?_
          exact w_X11_differentTurns_j42 X x1 x2 x3 z.2 1 σ KB KX0 Y (lv_sub hl [0, 1, 2, 3, 5] rfl) h
def f_X11_differentTurns_j61 (x1 : Int32) (x3 : Int32) (s0 : Int32) (s1 : Int32) (σ : St) : Option ((Int32 × Int32) ⊕ (Int32)) :=
  some (.inl (s1 + s0, x3 + 1))
set_option maxHeartbeats 4000000 in
set_option maxRecDepth 100000 in
theorem w_X11_differentTurns_j61 (X : Cx g RX11 cX11_differentTurns 6 (some .int) p s m args meth c) (x1 : Int32) (x3 : Int32) (s0 : Int32) (s1 : Int32) (σ : St) {w : (Int32 × Int32) ⊕ (Int32)} (KB : ∀ (v0_ : Int32) (v1_ : Int32), w = .inl (v0_, v1_) → ∀ (H : Heap) (locs : List Loc) (ls : Array Slot), Wd g s σ H locs → lv_has ls 6 [(0, .ref (g.2.2 (101))), (1, .int (x1)), (2, .int (v0_)), (3, .int (v1_))] → W p l e (rmm 4 94) s m args below meth c H locs 0 0 Q (F0 m 4 ls [])) (KX0 : ∀ (v : Int32), w = .inr v → ∀ (H : Heap) (locs : List Loc) (ls : Array Slot), Wd g s σ H locs → lv_has ls 6 [(2, .int (v))] → W p l e (rmm 4 94) s m args below meth c H locs 0 0 Q (F0 m 69 ls [])) {H : Heap} {locs : List Loc} {ls : Array Slot} (Y : Wd g s σ H locs) (hl : lv_has ls 6 [(0, .ref (g.2.2 (101))), (1, .int (x1)), (3, .int (x3))]) (h : f_X11_differentTurns_j61 x1 x3 s0 s1 σ = some w) : W p l e (rmm 4 94) s m args below meth c H locs 0 0 Q (F0 m 61 ls [.int (s0), .int (s1)]) := by
  unfold f_X11_differentTurns_j61 at h
  refine lv_iadd X.1 X.2.1 (dk T_X11_differentTurns 34 rfl) ?_
  refine lv_istore_n (lv' := [(2, .int (s1 + s0)), (0, .ref (g.2.2 (101))), (1, .int (x1)), (3, .int (x3))]) X.1 X.2.1 (dk T_X11_differentTurns 35 rfl) rfl hl (Nat.le_of_ble_eq_true rfl) rfl (fun ls hl => ?_)
  refine lv_iinc (v := x3 + 1) (lv' := [(3, .int (x3 + 1)), (2, .int (s1 + s0)), (0, .ref (g.2.2 (101))), (1, .int (x1))]) X.1 X.2.1 (dk T_X11_differentTurns 36 rfl) hl (k := 3) rfl (icx ic_1) (Nat.le_of_ble_eq_true rfl) rfl (fun ls hl => ?_)
  refine lv_goto (tgt := 4) X.1 X.2.1 (dk T_X11_differentTurns 37 rfl) rfl ?_
  exact KB (s1 + s0) (x3 + 1) (Option.some.inj h).symm _ _ _ Y (lv_sub hl [2, 3, 1, 0] rfl)
def f_X11_differentTurns_l4 (x1 : Int32) (σ : St) (z : Int32 × Int32) : Option ((Int32 × Int32) ⊕ (Int32)) :=
  if 4 ≤ z.2 then some (.inr z.1) else (lp (f_X11_differentTurns_l15 x1 z.1 z.2 σ) FU (1, 0)).bind fun q6 => if q6 = 0 then f_X11_differentTurns_j61 x1 z.2 0 z.1 σ else f_X11_differentTurns_j61 x1 z.2 1 z.1 σ
set_option maxHeartbeats 4000000 in
set_option maxRecDepth 100000 in
theorem w_X11_differentTurns_l4 (X : Cx g RX11 cX11_differentTurns 6 (some .int) p s m args meth c) (x1 : Int32) (σ : St) {r : Int32} (KX0 : ∀ (v : Int32), r = v → ∀ (H : Heap) (locs : List Loc) (ls : Array Slot), Wd g s σ H locs → lv_has ls 6 [(2, .int (v))] → W p l e (rmm 4 94) s m args below meth c H locs 0 0 Q (F0 m 69 ls [])) : ∀ (n : Nat) (z : Int32 × Int32) {H : Heap} {locs : List Loc} {ls : Array Slot}, Wd g s σ H locs → lv_has ls 6 [(0, .ref (g.2.2 (101))), (1, .int (x1)), (2, .int (z.1)), (3, .int (z.2))] → lp (f_X11_differentTurns_l4 x1 σ) n z = some r → W p l e (rmm 4 94) s m args below meth c H locs 0 0 Q (F0 m 4 ls []) := by
  intro n
  induction n with
  | zero => intro z H locs ls Y hl h; cases h
  | succ n ih =>
    intro z H locs ls Y hl h
    obtain ⟨w, h, hw⟩ := lps h
    have KB : ∀ (v0_ : Int32) (v1_ : Int32), w = .inl (v0_, v1_) → ∀ (H : Heap) (locs : List Loc) (ls : Array Slot), Wd g s σ H locs → lv_has ls 6 [(0, .ref (g.2.2 (101))), (1, .int (x1)), (2, .int (v0_)), (3, .int (v1_))] → W p l e (rmm 4 94) s m args below meth c H locs 0 0 Q (F0 m 4 ls []) := fun v0_ v1_ e H locs ls Y hl => ih (v0_, v1_) Y hl (lpl hw e)
    have KX0 := fun (v : Int32) (e : w = .inr v) => KX0 v (lpr hw e)
    unfold f_X11_differentTurns_l4 at h
    refine lv_iload_n X.1 X.2.1 (dk T_X11_differentTurns 4 rfl) rfl (lv_at hl 3 rfl) ?_
    refine lv_iconst (v := 4) X.1 X.2.1 (dk T_X11_differentTurns 5 rfl) ic_4 ?_
    refine lv_icmp_ge (tgt := 69) X.1 X.2.1 (dk T_X11_differentTurns 6 rfl) rfl (fun c1 => ?_) (fun c1 => ?_)
    · replace h := ipos c1 h
      exact KX0 z.1 (Option.some.inj h).symm _ _ _ Y (lv_sub hl [2] rfl)
    · replace h := ineg c1 h
      refine lv_iconst (v := 1) X.1 X.2.1 (dk T_X11_differentTurns 7 rfl) ic_1 ?_
      refine lv_istore (lv' := [(4, .int (1)), (0, .ref (g.2.2 (101))), (1, .int (x1)), (2, .int (z.1)), (3, .int (z.2))]) X.1 X.2.1 (dk T_X11_differentTurns 8 rfl) hl (Nat.le_of_ble_eq_true rfl) rfl (fun ls hl => ?_)
      refine lv_iconst (v := 0) X.1 X.2.1 (dk T_X11_differentTurns 9 rfl) ic_0 ?_
      refine lv_istore (lv' := [(5, .int (0)), (4, .int (1)), (0, .ref (g.2.2 (101))), (1, .int (x1)), (2, .int (z.1)), (3, .int (z.2))]) X.1 X.2.1 (dk T_X11_differentTurns 10 rfl) hl (Nat.le_of_ble_eq_true rfl) rfl (fun ls hl => ?_)
      obtain ⟨q6, hq6, h⟩ := bs h
      refine w_X11_differentTurns_l15 X x1 z.1 z.2 σ (fun v e H locs ls Y hl => ?_) FU (1, 0) Y (lv_sub hl [2, 3, 4, 5, 1, 0] rfl) hq6
      · obtain rfl := e
        refine lv_iload_n X.1 X.2.1 (dk T_X11_differentTurns 28 rfl) rfl (lv_at hl 2 rfl) ?_
        refine lv_iload X.1 X.2.1 (dk T_X11_differentTurns 29 rfl) (lv_at hl 4 rfl) ?_
        refine lv_if_eq (tgt := 60) X.1 X.2.1 (dk T_X11_differentTurns 30 rfl) rfl (fun c7 => ?_) (fun c7 => ?_)
        · replace h := ipos c7 h
          refine lv_iconst (v := 0) X.1 X.2.1 (dk T_X11_differentTurns 33 rfl) ic_0 ?_
          exact w_X11_differentTurns_j61 X x1 z.2 0 z.1 σ KB KX0 Y (lv_sub hl [0, 1, 3] rfl) h
        · replace h := ineg c7 h
          refine lv_iconst (v := 1) X.1 X.2.1 (dk T_X11_differentTurns 31 rfl) ic_1 ?_
          refine lv_goto (tgt := 61) X.1 X.2.1 (dk T_X11_differentTurns 32 rfl) rfl ?_
          exact w_X11_differentTurns_j61 X x1 z.2 1 z.1 σ KB KX0 Y (lv_sub hl [0, 1, 3] rfl) h
def f_X11_differentTurns_0 (x1 : Int32) (σ : St) : Option (Int32) :=
  (lp (f_X11_differentTurns_l4 x1 σ) FU (0, 0)).bind fun q8 => some q8
set_option maxHeartbeats 4000000 in
set_option maxRecDepth 100000 in
theorem w_X11_differentTurns_0 (X : Cx g RX11 cX11_differentTurns 6 (some .int) p s m args meth c) (x1 : Int32) (σ : St) {w : Int32} (KR : ∀ (H : Heap) (locs : List Loc) (ls : Array Slot) (pc : Nat), Wd g s σ H locs → decode cX11_differentTurns pc = .ok (.ireturn, 1) → W p l e (rmm 4 94) s m args below meth c H locs 0 0 Q (F0 m pc ls [.int (w)])) {H : Heap} {locs : List Loc} {ls : Array Slot} (Y : Wd g s σ H locs) (hl : lv_has ls 6 [(0, .ref (g.2.2 (101))), (1, .int (x1))]) (h : f_X11_differentTurns_0 x1 σ = some w) : W p l e (rmm 4 94) s m args below meth c H locs 0 0 Q (F0 m 0 ls []) := by
  unfold f_X11_differentTurns_0 at h
  refine lv_iconst (v := 0) X.1 X.2.1 (dk T_X11_differentTurns 0 rfl) ic_0 ?_
  refine lv_istore_n (lv' := [(2, .int (0)), (0, .ref (g.2.2 (101))), (1, .int (x1))]) X.1 X.2.1 (dk T_X11_differentTurns 1 rfl) rfl hl (Nat.le_of_ble_eq_true rfl) rfl (fun ls hl => ?_)
  refine lv_iconst (v := 0) X.1 X.2.1 (dk T_X11_differentTurns 2 rfl) ic_0 ?_
  refine lv_istore_n (lv' := [(3, .int (0)), (2, .int (0)), (0, .ref (g.2.2 (101))), (1, .int (x1))]) X.1 X.2.1 (dk T_X11_differentTurns 3 rfl) rfl hl (Nat.le_of_ble_eq_true rfl) rfl (fun ls hl => ?_)
  obtain ⟨q8, hq8, h⟩ := bs h
  refine w_X11_differentTurns_l4 X x1 σ (fun v e H locs ls Y hl => ?_) FU (0, 0) Y (lv_sub hl [2, 3, 1, 0] rfl) hq8
  · obtain rfl := e
    refine lv_iload_n X.1 X.2.1 (dk T_X11_differentTurns 38 rfl) rfl (lv_at hl 0 rfl) ?_
    obtain rfl := Option.some.inj h
    exact KR _ _ _ _ Y (dk T_X11_differentTurns 39 rfl)
def f_X11_differentTurns (x1 : Int32) (σ : St) : Option (Int32) := f_X11_differentTurns_0 x1 σ
set_option maxHeartbeats 4000000 in
set_option maxRecDepth 100000 in
theorem c_X11_differentTurns {l : Launch} {g : Geo} (x1 : Int32) (σ : St) {w : Int32} (h : f_X11_differentTurns x1 σ = some w) : CtI l yX11_differentTurns cX11_differentTurns 6 (some .int) (rmm 4 94) g [.ref (g.2.2 (101)), .int (x1)] σ w σ := enI .int (by decide) rfl rfl (Nat.le_of_ble_eq_true rfl) (fun p e s m args below meth c Q X Y ls hl KR => w_X11_differentTurns_0 X x1 σ KR Y hl h)
def I_X11_shape : List (Nat × Instr × Nat) := [(0, .aload_n 0, 1), (1, .iconst 0, 1), (2, .putfield 71, 3), (5, .aload_n 0, 1), (6, .iload_n 1, 1), (7, .invokevirtual 188, 3), (10, .ifCond .ne 9, 3), (13, .aload_n 0, 1), (14, .iconst 1, 1), (15, .invokevirtual 91, 3), (18, .ireturn, 1), (19, .iload_n 2, 1), (20, .tableswitch 129 0 7 #[48, 59, 70, 81, 92, 103, 117, 123], 48), (68, .aload_n 0, 1), (69, .getfield 7, 3), (72, .sipush 621, 3), (75, .iload_n 1, 1), (76, .iadd, 1), (77, .iaload, 1), (78, .ireturn, 1), (79, .aload_n 0, 1), (80, .getfield 7, 3), (83, .sipush 629, 3), (86, .iload_n 1, 1), (87, .iadd, 1), (88, .iaload, 1), (89, .ireturn, 1), (90, .aload_n 0, 1), (91, .getfield 7, 3), (94, .sipush 637, 3), (97, .iload_n 1, 1), (98, .iadd, 1), (99, .iaload, 1), (100, .ireturn, 1), (101, .aload_n 0, 1), (102, .getfield 7, 3), (105, .sipush 645, 3), (108, .iload_n 1, 1), (109, .iadd, 1), (110, .iaload, 1), (111, .ireturn, 1), (112, .aload_n 0, 1), (113, .getfield 7, 3), (116, .sipush 653, 3), (119, .iload_n 1, 1), (120, .iadd, 1), (121, .iaload, 1), (122, .ireturn, 1), (123, .aload_n 0, 1), (124, .getfield 7, 3), (127, .sipush 637, 3), (130, .iload_n 1, 1), (131, .iadd, 1), (132, .iaload, 1), (133, .invokestatic 191, 3), (136, .ireturn, 1), (137, .aload_n 0, 1), (138, .iload_n 1, 1), (139, .invokevirtual 194, 3), (142, .ireturn, 1), (143, .aload_n 0, 1), (144, .iload_n 1, 1), (145, .invokevirtual 197, 3), (148, .ireturn, 1), (149, .aload_n 0, 1), (150, .iconst 2, 1), (151, .invokevirtual 91, 3), (154, .ireturn, 1)]
set_option maxRecDepth 100000 in
theorem T_X11_shape : ∀ q ∈ I_X11_shape, decode cX11_shape q.1 = .ok (q.2.1, q.2.2) := by decide +kernel
def f_X11_shape_0 (x1 : Int32) (x2 : Int32) (σ : St) : Option (Int32 × St) :=
  (f_X11_isShape x1 (up σ 101 0 0)).bind fun q1 => if q1 = 0 then (f_X11_fails 1 (up σ 101 0 0)).bind fun q21 => some (q21.1, q21.2) else if x2 = 0 then chk (inb (621 + x1) 761) (some ((up σ 101 0 0) 102 (621 + x1).toNatClampNeg, up σ 101 0 0)) else if x2 = 1 then chk (inb (629 + x1) 761) (some ((up σ 101 0 0) 102 (629 + x1).toNatClampNeg, up σ 101 0 0)) else if x2 = 2 then chk (inb (637 + x1) 761) (some ((up σ 101 0 0) 102 (637 + x1).toNatClampNeg, up σ 101 0 0)) else if x2 = 3 then chk (inb (645 + x1) 761) (some ((up σ 101 0 0) 102 (645 + x1).toNatClampNeg, up σ 101 0 0)) else if x2 = 4 then chk (inb (653 + x1) 761) (some ((up σ 101 0 0) 102 (653 + x1).toNatClampNeg, up σ 101 0 0)) else if x2 = 5 then chk (inb (637 + x1) 761) ((f_X11_bits ((up σ 101 0 0) 102 (637 + x1).toNatClampNeg)).bind fun q15 => some (q15, up σ 101 0 0)) else if x2 = 6 then (f_X11_partsOf x1 (up σ 101 0 0)).bind fun q17 => some (q17, up σ 101 0 0) else if x2 = 7 then (f_X11_differentTurns x1 (up σ 101 0 0)).bind fun q19 => some (q19, up σ 101 0 0) else (f_X11_fails 2 (up σ 101 0 0)).bind fun q20 => some (q20.1, q20.2)
set_option maxHeartbeats 4000000 in
set_option maxRecDepth 100000 in
theorem w_X11_shape_0 (X : Cx g RX11 cX11_shape 3 (some .int) p s m args meth c) (x1 : Int32) (x2 : Int32) (σ : St) {w : Int32 × St} (KR : ∀ (H : Heap) (locs : List Loc) (ls : Array Slot) (pc : Nat), Wd g s w.2 H locs → decode cX11_shape pc = .ok (.ireturn, 1) → W p l e (rmm 5 119) s m args below meth c H locs 0 0 Q (F0 m pc ls [.int (w.1)])) {H : Heap} {locs : List Loc} {ls : Array Slot} (Y : Wd g s σ H locs) (hl : lv_has ls 3 [(0, .ref (g.2.2 (101))), (1, .int (x1)), (2, .int (x2))]) (h : f_X11_shape_0 x1 x2 σ = some w) : W p l e (rmm 5 119) s m args below meth c H locs 0 0 Q (F0 m 0 ls []) := by
  unfold f_X11_shape_0 at h
  refine lv_aload_n X.1 X.2.1 (dk T_X11_shape 0 rfl) rfl (lv_at hl 0 rfl) ?_
  refine lv_iconst (v := 0) X.1 X.2.1 (dk T_X11_shape 1 rfl) ic_0 ?_
  refine gp X Y fp_X11_71 rfl (nar_int _) (dk T_X11_shape 2 rfl) (fun H locs Y => ?_)
  refine lv_aload_n X.1 X.2.1 (dk T_X11_shape 3 rfl) rfl (lv_at hl 0 rfl) ?_
  refine lv_iload_n X.1 X.2.1 (dk T_X11_shape 4 rfl) rfl (lv_at hl 1 rfl) ?_
  obtain ⟨q1, hq1, h⟩ := bs h
  refine gvI (rest := []) X Y (c_X11_isShape x1 (up σ 101 0 0) hq1) cb_X11_188 rfl hl.1 rfl rfl (Nat.le_of_ble_eq_true rfl) ⟨Nat.le_of_ble_eq_true rfl, Nat.le_of_ble_eq_true rfl⟩ (dk T_X11_shape 5 rfl) (fun H locs Y => ?_)
  refine lv_if_ne (tgt := 19) X.1 X.2.1 (dk T_X11_shape 6 rfl) rfl (fun c2 => ?_) (fun c2 => ?_)
  · replace h := ineg c2 h
    refine lv_iload_n X.1 X.2.1 (dk T_X11_shape 11 rfl) rfl (lv_at hl 2 rfl) ?_
    rcases Decidable.em (x2 = 0) with c3 | c3
    · replace h := ipos c3 h
      refine lv_tableIn (tgt := 68) (off := 48) X.1 X.2.1 (dk T_X11_shape 12 rfl) (ts1 c3 (by decide)) (ts2 c3 (by decide)) (ts3 c3 (by decide)) rfl ?_
      refine lv_aload_n X.1 X.2.1 (dk T_X11_shape 13 rfl) rfl (lv_at hl 0 rfl) ?_
      refine gg X Y fl_X11_7 rfl rfl (dk T_X11_shape 14 rfl) ?_
      refine lv_sipush (v := 621) X.1 X.2.1 (dk T_X11_shape 15 rfl) sp_621 ?_
      refine lv_iload_n X.1 X.2.1 (dk T_X11_shape 16 rfl) rfl (lv_at hl 1 rfl) ?_
      refine lv_iadd X.1 X.2.1 (dk T_X11_shape 17 rfl) ?_
      obtain ⟨g4, h⟩ := gd h
      refine gil X Y rfl (inp g4) (dk T_X11_shape 18 rfl) ?_
      obtain rfl := Option.some.inj h
      exact KR _ _ _ _ Y (dk T_X11_shape 19 rfl)
    replace h := ineg c3 h
    rcases Decidable.em (x2 = 1) with c5 | c5
    · replace h := ipos c5 h
      refine lv_tableIn (tgt := 79) (off := 59) X.1 X.2.1 (dk T_X11_shape 12 rfl) (ts1 c5 (by decide)) (ts2 c5 (by decide)) (ts3 c5 (by decide)) rfl ?_
      refine lv_aload_n X.1 X.2.1 (dk T_X11_shape 20 rfl) rfl (lv_at hl 0 rfl) ?_
      refine gg X Y fl_X11_7 rfl rfl (dk T_X11_shape 21 rfl) ?_
      refine lv_sipush (v := 629) X.1 X.2.1 (dk T_X11_shape 22 rfl) sp_629 ?_
      refine lv_iload_n X.1 X.2.1 (dk T_X11_shape 23 rfl) rfl (lv_at hl 1 rfl) ?_
      refine lv_iadd X.1 X.2.1 (dk T_X11_shape 24 rfl) ?_
      obtain ⟨g6, h⟩ := gd h
      refine gil X Y rfl (inp g6) (dk T_X11_shape 25 rfl) ?_
      obtain rfl := Option.some.inj h
      exact KR _ _ _ _ Y (dk T_X11_shape 26 rfl)
    replace h := ineg c5 h
    rcases Decidable.em (x2 = 2) with c7 | c7
    · replace h := ipos c7 h
      refine lv_tableIn (tgt := 90) (off := 70) X.1 X.2.1 (dk T_X11_shape 12 rfl) (ts1 c7 (by decide)) (ts2 c7 (by decide)) (ts3 c7 (by decide)) rfl ?_
      refine lv_aload_n X.1 X.2.1 (dk T_X11_shape 27 rfl) rfl (lv_at hl 0 rfl) ?_
      refine gg X Y fl_X11_7 rfl rfl (dk T_X11_shape 28 rfl) ?_
      refine lv_sipush (v := 637) X.1 X.2.1 (dk T_X11_shape 29 rfl) sp_637 ?_
      refine lv_iload_n X.1 X.2.1 (dk T_X11_shape 30 rfl) rfl (lv_at hl 1 rfl) ?_
      refine lv_iadd X.1 X.2.1 (dk T_X11_shape 31 rfl) ?_
      obtain ⟨g8, h⟩ := gd h
      refine gil X Y rfl (inp g8) (dk T_X11_shape 32 rfl) ?_
      obtain rfl := Option.some.inj h
      exact KR _ _ _ _ Y (dk T_X11_shape 33 rfl)
    replace h := ineg c7 h
    rcases Decidable.em (x2 = 3) with c9 | c9
    · replace h := ipos c9 h
      refine lv_tableIn (tgt := 101) (off := 81) X.1 X.2.1 (dk T_X11_shape 12 rfl) (ts1 c9 (by decide)) (ts2 c9 (by decide)) (ts3 c9 (by decide)) rfl ?_
      refine lv_aload_n X.1 X.2.1 (dk T_X11_shape 34 rfl) rfl (lv_at hl 0 rfl) ?_
      refine gg X Y fl_X11_7 rfl rfl (dk T_X11_shape 35 rfl) ?_
      refine lv_sipush (v := 645) X.1 X.2.1 (dk T_X11_shape 36 rfl) sp_645 ?_
      refine lv_iload_n X.1 X.2.1 (dk T_X11_shape 37 rfl) rfl (lv_at hl 1 rfl) ?_
      refine lv_iadd X.1 X.2.1 (dk T_X11_shape 38 rfl) ?_
      obtain ⟨g10, h⟩ := gd h
      refine gil X Y rfl (inp g10) (dk T_X11_shape 39 rfl) ?_
      obtain rfl := Option.some.inj h
      exact KR _ _ _ _ Y (dk T_X11_shape 40 rfl)
    replace h := ineg c9 h
    rcases Decidable.em (x2 = 4) with c11 | c11
    · replace h := ipos c11 h
      refine lv_tableIn (tgt := 112) (off := 92) X.1 X.2.1 (dk T_X11_shape 12 rfl) (ts1 c11 (by decide)) (ts2 c11 (by decide)) (ts3 c11 (by decide)) rfl ?_
      refine lv_aload_n X.1 X.2.1 (dk T_X11_shape 41 rfl) rfl (lv_at hl 0 rfl) ?_
      refine gg X Y fl_X11_7 rfl rfl (dk T_X11_shape 42 rfl) ?_
      refine lv_sipush (v := 653) X.1 X.2.1 (dk T_X11_shape 43 rfl) sp_653 ?_
      refine lv_iload_n X.1 X.2.1 (dk T_X11_shape 44 rfl) rfl (lv_at hl 1 rfl) ?_
      refine lv_iadd X.1 X.2.1 (dk T_X11_shape 45 rfl) ?_
      obtain ⟨g12, h⟩ := gd h
      refine gil X Y rfl (inp g12) (dk T_X11_shape 46 rfl) ?_
      obtain rfl := Option.some.inj h
      exact KR _ _ _ _ Y (dk T_X11_shape 47 rfl)
    replace h := ineg c11 h
    rcases Decidable.em (x2 = 5) with c13 | c13
    · replace h := ipos c13 h
      refine lv_tableIn (tgt := 123) (off := 103) X.1 X.2.1 (dk T_X11_shape 12 rfl) (ts1 c13 (by decide)) (ts2 c13 (by decide)) (ts3 c13 (by decide)) rfl ?_
      refine lv_aload_n X.1 X.2.1 (dk T_X11_shape 48 rfl) rfl (lv_at hl 0 rfl) ?_
      refine gg X Y fl_X11_7 rfl rfl (dk T_X11_shape 49 rfl) ?_
      refine lv_sipush (v := 637) X.1 X.2.1 (dk T_X11_shape 50 rfl) sp_637 ?_
      refine lv_iload_n X.1 X.2.1 (dk T_X11_shape 51 rfl) rfl (lv_at hl 1 rfl) ?_
      refine lv_iadd X.1 X.2.1 (dk T_X11_shape 52 rfl) ?_
      obtain ⟨g14, h⟩ := gd h
      refine gil X Y rfl (inp g14) (dk T_X11_shape 53 rfl) ?_
      obtain ⟨q15, hq15, h⟩ := bs h
      refine gsI (rest := []) X Y (c_X11_bits ((up σ 101 0 0) 102 (637 + x1).toNatClampNeg) (up σ 101 0 0) hq15) cb_X11_191 hl.1 rfl rfl (Nat.le_of_ble_eq_true rfl) ⟨Nat.le_of_ble_eq_true rfl, Nat.le_of_ble_eq_true rfl⟩ (dk T_X11_shape 54 rfl) (fun H locs Y => ?_)
      obtain rfl := Option.some.inj h
      exact KR _ _ _ _ Y (dk T_X11_shape 55 rfl)
    replace h := ineg c13 h
    rcases Decidable.em (x2 = 6) with c16 | c16
    · replace h := ipos c16 h
      refine lv_tableIn (tgt := 137) (off := 117) X.1 X.2.1 (dk T_X11_shape 12 rfl) (ts1 c16 (by decide)) (ts2 c16 (by decide)) (ts3 c16 (by decide)) rfl ?_
      refine lv_aload_n X.1 X.2.1 (dk T_X11_shape 56 rfl) rfl (lv_at hl 0 rfl) ?_
      refine lv_iload_n X.1 X.2.1 (dk T_X11_shape 57 rfl) rfl (lv_at hl 1 rfl) ?_
      obtain ⟨q17, hq17, h⟩ := bs h
      refine gvI (rest := []) X Y (c_X11_partsOf x1 (up σ 101 0 0) hq17) cb_X11_194 rfl hl.1 rfl rfl (Nat.le_of_ble_eq_true rfl) ⟨Nat.le_of_ble_eq_true rfl, Nat.le_of_ble_eq_true rfl⟩ (dk T_X11_shape 58 rfl) (fun H locs Y => ?_)
      obtain rfl := Option.some.inj h
      exact KR _ _ _ _ Y (dk T_X11_shape 59 rfl)
    replace h := ineg c16 h
    rcases Decidable.em (x2 = 7) with c18 | c18
    · replace h := ipos c18 h
      refine lv_tableIn (tgt := 143) (off := 123) X.1 X.2.1 (dk T_X11_shape 12 rfl) (ts1 c18 (by decide)) (ts2 c18 (by decide)) (ts3 c18 (by decide)) rfl ?_
      refine lv_aload_n X.1 X.2.1 (dk T_X11_shape 60 rfl) rfl (lv_at hl 0 rfl) ?_
      refine lv_iload_n X.1 X.2.1 (dk T_X11_shape 61 rfl) rfl (lv_at hl 1 rfl) ?_
      obtain ⟨q19, hq19, h⟩ := bs h
      refine gvI (rest := []) X Y (c_X11_differentTurns x1 (up σ 101 0 0) hq19) cb_X11_197 rfl hl.1 rfl rfl (Nat.le_of_ble_eq_true rfl) ⟨Nat.le_of_ble_eq_true rfl, Nat.le_of_ble_eq_true rfl⟩ (dk T_X11_shape 62 rfl) (fun H locs Y => ?_)
      obtain rfl := Option.some.inj h
      exact KR _ _ _ _ Y (dk T_X11_shape 63 rfl)
    replace h := ineg c18 h
    refine lv_tableOut (tgt := 149) X.1 X.2.1 (dk T_X11_shape 12 rfl) (ts8n c3 c5 c7 c9 c11 c13 c16 c18) rfl ?_
    refine lv_aload_n X.1 X.2.1 (dk T_X11_shape 64 rfl) rfl (lv_at hl 0 rfl) ?_
    refine lv_iconst (v := 2) X.1 X.2.1 (dk T_X11_shape 65 rfl) ic_2 ?_
    obtain ⟨q20, hq20, h⟩ := bs h
    refine gvI (rest := []) X Y (c_X11_fails 2 (up σ 101 0 0) hq20) cb_X11_91 rfl hl.1 rfl rfl (Nat.le_of_ble_eq_true rfl) ⟨Nat.le_of_ble_eq_true rfl, Nat.le_of_ble_eq_true rfl⟩ (dk T_X11_shape 66 rfl) (fun H locs Y => ?_)
    obtain rfl := Option.some.inj h
    exact KR _ _ _ _ Y (dk T_X11_shape 67 rfl)
  · replace h := ipos c2 h
    refine lv_aload_n X.1 X.2.1 (dk T_X11_shape 7 rfl) rfl (lv_at hl 0 rfl) ?_
    refine lv_iconst (v := 1) X.1 X.2.1 (dk T_X11_shape 8 rfl) ic_1 ?_
    obtain ⟨q21, hq21, h⟩ := bs h
    refine gvI (rest := []) X Y (c_X11_fails 1 (up σ 101 0 0) hq21) cb_X11_91 rfl hl.1 rfl rfl (Nat.le_of_ble_eq_true rfl) ⟨Nat.le_of_ble_eq_true rfl, Nat.le_of_ble_eq_true rfl⟩ (dk T_X11_shape 9 rfl) (fun H locs Y => ?_)
    obtain rfl := Option.some.inj h
    exact KR _ _ _ _ Y (dk T_X11_shape 10 rfl)
def f_X11_shape (x1 : Int32) (x2 : Int32) (σ : St) : Option (Int32 × St) := f_X11_shape_0 x1 x2 σ
set_option maxHeartbeats 4000000 in
set_option maxRecDepth 100000 in
theorem c_X11_shape {l : Launch} {g : Geo} (x1 : Int32) (x2 : Int32) (σ : St) {w : Int32 × St} (h : f_X11_shape x1 x2 σ = some w) : CtI l yX11_shape cX11_shape 3 (some .int) (rmm 5 119) g [.ref (g.2.2 (101)), .int (x1), .int (x2)] σ w.1 w.2 := enI .int (by decide) rfl rfl (Nat.le_of_ble_eq_true rfl) (fun p e s m args below meth c Q X Y ls hl KR => w_X11_shape_0 X x1 x2 σ KR Y hl h)
def I_X11_turned : List (Nat × Instr × Nat) := [(0, .aload_n 0, 1), (1, .iconst 0, 1), (2, .putfield 71, 3), (5, .aload_n 0, 1), (6, .iload_n 1, 1), (7, .invokevirtual 188, 3), (10, .ifCond .ne 9, 3), (13, .aload_n 0, 1), (14, .iconst 1, 1), (15, .invokevirtual 91, 3), (18, .ireturn, 1), (19, .iload_n 2, 1), (20, .iconst 0, 1), (21, .iconst 3, 1), (22, .invokestatic 75, 3), (25, .ifCond .eq 12, 3), (28, .aload_n 0, 1), (29, .iload_n 1, 1), (30, .iload_n 2, 1), (31, .invokevirtual 136, 3), (34, .goto 8, 3), (37, .aload_n 0, 1), (38, .iconst 2, 1), (39, .invokevirtual 91, 3), (42, .ireturn, 1)]
set_option maxRecDepth 100000 in
theorem T_X11_turned : ∀ q ∈ I_X11_turned, decode cX11_turned q.1 = .ok (q.2.1, q.2.2) := by decide +kernel
def f_X11_turned_0 (x1 : Int32) (x2 : Int32) (σ : St) : Option (Int32 × St) :=
  (f_X11_isShape x1 (up σ 101 0 0)).bind fun q1 => if q1 = 0 then (f_X11_fails 1 (up σ 101 0 0)).bind fun q7 => some (q7.1, q7.2) else (f_X11_in x2 0 3).bind fun q3 => if q3 = 0 then (f_X11_fails 2 (up σ 101 0 0)).bind fun q5 => some (q5.1, q5.2) else (f_X11_turnedSet x1 x2 (up σ 101 0 0)).bind fun q6 => some (q6, up σ 101 0 0)
set_option maxHeartbeats 4000000 in
set_option maxRecDepth 100000 in
theorem w_X11_turned_0 (X : Cx g RX11 cX11_turned 3 (some .int) p s m args meth c) (x1 : Int32) (x2 : Int32) (σ : St) {w : Int32 × St} (KR : ∀ (H : Heap) (locs : List Loc) (ls : Array Slot) (pc : Nat), Wd g s w.2 H locs → decode cX11_turned pc = .ok (.ireturn, 1) → W p l e (rmm 3 71) s m args below meth c H locs 0 0 Q (F0 m pc ls [.int (w.1)])) {H : Heap} {locs : List Loc} {ls : Array Slot} (Y : Wd g s σ H locs) (hl : lv_has ls 3 [(0, .ref (g.2.2 (101))), (1, .int (x1)), (2, .int (x2))]) (h : f_X11_turned_0 x1 x2 σ = some w) : W p l e (rmm 3 71) s m args below meth c H locs 0 0 Q (F0 m 0 ls []) := by
  unfold f_X11_turned_0 at h
  refine lv_aload_n X.1 X.2.1 (dk T_X11_turned 0 rfl) rfl (lv_at hl 0 rfl) ?_
  refine lv_iconst (v := 0) X.1 X.2.1 (dk T_X11_turned 1 rfl) ic_0 ?_
  refine gp X Y fp_X11_71 rfl (nar_int _) (dk T_X11_turned 2 rfl) (fun H locs Y => ?_)
  refine lv_aload_n X.1 X.2.1 (dk T_X11_turned 3 rfl) rfl (lv_at hl 0 rfl) ?_
  refine lv_iload_n X.1 X.2.1 (dk T_X11_turned 4 rfl) rfl (lv_at hl 1 rfl) ?_
  obtain ⟨q1, hq1, h⟩ := bs h
  refine gvI (rest := []) X Y (c_X11_isShape x1 (up σ 101 0 0) hq1) cb_X11_188 rfl hl.1 rfl rfl (Nat.le_of_ble_eq_true rfl) ⟨Nat.le_of_ble_eq_true rfl, Nat.le_of_ble_eq_true rfl⟩ (dk T_X11_turned 5 rfl) (fun H locs Y => ?_)
  refine lv_if_ne (tgt := 19) X.1 X.2.1 (dk T_X11_turned 6 rfl) rfl (fun c2 => ?_) (fun c2 => ?_)
  · replace h := ineg c2 h
    refine lv_iload_n X.1 X.2.1 (dk T_X11_turned 11 rfl) rfl (lv_at hl 2 rfl) ?_
    refine lv_iconst (v := 0) X.1 X.2.1 (dk T_X11_turned 12 rfl) ic_0 ?_
    refine lv_iconst (v := 3) X.1 X.2.1 (dk T_X11_turned 13 rfl) ic_3 ?_
    obtain ⟨q3, hq3, h⟩ := bs h
    refine gsI (rest := []) X Y (c_X11_in x2 0 3 (up σ 101 0 0) hq3) cb_X11_75 hl.1 rfl rfl (Nat.le_of_ble_eq_true rfl) ⟨Nat.le_of_ble_eq_true rfl, Nat.le_of_ble_eq_true rfl⟩ (dk T_X11_turned 14 rfl) (fun H locs Y => ?_)
    refine lv_if_eq (tgt := 37) X.1 X.2.1 (dk T_X11_turned 15 rfl) rfl (fun c4 => ?_) (fun c4 => ?_)
    · replace h := ipos c4 h
      refine lv_aload_n X.1 X.2.1 (dk T_X11_turned 21 rfl) rfl (lv_at hl 0 rfl) ?_
      refine lv_iconst (v := 2) X.1 X.2.1 (dk T_X11_turned 22 rfl) ic_2 ?_
      obtain ⟨q5, hq5, h⟩ := bs h
      refine gvI (rest := []) X Y (c_X11_fails 2 (up σ 101 0 0) hq5) cb_X11_91 rfl hl.1 rfl rfl (Nat.le_of_ble_eq_true rfl) ⟨Nat.le_of_ble_eq_true rfl, Nat.le_of_ble_eq_true rfl⟩ (dk T_X11_turned 23 rfl) (fun H locs Y => ?_)
      obtain rfl := Option.some.inj h
      exact KR _ _ _ _ Y (dk T_X11_turned 24 rfl)
    · replace h := ineg c4 h
      refine lv_aload_n X.1 X.2.1 (dk T_X11_turned 16 rfl) rfl (lv_at hl 0 rfl) ?_
      refine lv_iload_n X.1 X.2.1 (dk T_X11_turned 17 rfl) rfl (lv_at hl 1 rfl) ?_
      refine lv_iload_n X.1 X.2.1 (dk T_X11_turned 18 rfl) rfl (lv_at hl 2 rfl) ?_
      obtain ⟨q6, hq6, h⟩ := bs h
      refine gvI (rest := []) X Y (c_X11_turnedSet x1 x2 (up σ 101 0 0) hq6) cb_X11_136 rfl hl.1 rfl rfl (Nat.le_of_ble_eq_true rfl) ⟨Nat.le_of_ble_eq_true rfl, Nat.le_of_ble_eq_true rfl⟩ (dk T_X11_turned 19 rfl) (fun H locs Y => ?_)
      refine lv_goto (tgt := 42) X.1 X.2.1 (dk T_X11_turned 20 rfl) rfl ?_
      obtain rfl := Option.some.inj h
      exact KR _ _ _ _ Y (dk T_X11_turned 24 rfl)
  · replace h := ipos c2 h
    refine lv_aload_n X.1 X.2.1 (dk T_X11_turned 7 rfl) rfl (lv_at hl 0 rfl) ?_
    refine lv_iconst (v := 1) X.1 X.2.1 (dk T_X11_turned 8 rfl) ic_1 ?_
    obtain ⟨q7, hq7, h⟩ := bs h
    refine gvI (rest := []) X Y (c_X11_fails 1 (up σ 101 0 0) hq7) cb_X11_91 rfl hl.1 rfl rfl (Nat.le_of_ble_eq_true rfl) ⟨Nat.le_of_ble_eq_true rfl, Nat.le_of_ble_eq_true rfl⟩ (dk T_X11_turned 9 rfl) (fun H locs Y => ?_)
    obtain rfl := Option.some.inj h
    exact KR _ _ _ _ Y (dk T_X11_turned 10 rfl)
def f_X11_turned (x1 : Int32) (x2 : Int32) (σ : St) : Option (Int32 × St) := f_X11_turned_0 x1 x2 σ
set_option maxHeartbeats 4000000 in
set_option maxRecDepth 100000 in
theorem c_X11_turned {l : Launch} {g : Geo} (x1 : Int32) (x2 : Int32) (σ : St) {w : Int32 × St} (h : f_X11_turned x1 x2 σ = some w) : CtI l yX11_turned cX11_turned 3 (some .int) (rmm 3 71) g [.ref (g.2.2 (101)), .int (x1), .int (x2)] σ w.1 w.2 := enI .int (by decide) rfl rfl (Nat.le_of_ble_eq_true rfl) (fun p e s m args below meth c Q X Y ls hl KR => w_X11_turned_0 X x1 x2 σ KR Y hl h)
def I_X11_fitsGrain : List (Nat × Instr × Nat) := [(0, .aload_n 0, 1), (1, .getfield 7, 3), (4, .sipush 645, 3), (7, .iload_n 1, 1), (8, .iadd, 1), (9, .iaload, 1), (10, .istore 4, 2), (12, .aload_n 0, 1), (13, .getfield 7, 3), (16, .bipush 15, 2), (18, .iload_n 2, 1), (19, .iadd, 1), (20, .iaload, 1), (21, .istore 5, 2), (23, .iload_n 3, 1), (24, .iconst 2, 1), (25, .irem, 1), (26, .ifCond .ne 17, 3), (29, .iload 5, 2), (31, .iconst 1, 1), (32, .if_icmp .ne 7, 3), (35, .iconst 1, 1), (36, .goto 18, 3), (39, .iconst 0, 1), (40, .goto 14, 3), (43, .iload 5, 2), (45, .iconst 2, 1), (46, .if_icmp .ne 7, 3), (49, .iconst 1, 1), (50, .goto 4, 3), (53, .iconst 0, 1), (54, .istore 6, 2), (56, .iload 4, 2), (58, .ifCond .eq 27, 3), (61, .iload 5, 2), (63, .ifCond .eq 22, 3), (66, .iload 4, 2), (68, .iconst 1, 1), (69, .if_icmp .ne 11, 3), (72, .iload 6, 2), (74, .ifCond .eq 15, 3), (77, .goto 8, 3), (80, .iload 6, 2), (82, .ifCond .ne 7, 3), (85, .iconst 1, 1), (86, .goto 4, 3), (89, .iconst 0, 1), (90, .ireturn, 1)]
set_option maxRecDepth 100000 in
theorem T_X11_fitsGrain : ∀ q ∈ I_X11_fitsGrain, decode cX11_fitsGrain q.1 = .ok (q.2.1, q.2.2) := by decide +kernel
def f_X11_fitsGrain_j85 (σ : St) : Option (Int32) :=
  some 1
set_option maxHeartbeats 4000000 in
set_option maxRecDepth 100000 in
theorem w_X11_fitsGrain_j85 (X : Cx g RX11 cX11_fitsGrain 7 (some .boolean) p s m args meth c) (σ : St) {w : Int32} (KR : ∀ (H : Heap) (locs : List Loc) (ls : Array Slot) (pc : Nat), Wd g s σ H locs → decode cX11_fitsGrain pc = .ok (.ireturn, 1) → W p l e (rmm 0 0) s m args below meth c H locs 0 0 Q (F0 m pc ls [.int (w)])) {H : Heap} {locs : List Loc} {ls : Array Slot} (Y : Wd g s σ H locs) (hl : lv_has ls 7 []) (h : f_X11_fitsGrain_j85 σ = some w) : W p l e (rmm 0 0) s m args below meth c H locs 0 0 Q (F0 m 85 ls []) := by
  unfold f_X11_fitsGrain_j85 at h
  refine lv_iconst (v := 1) X.1 X.2.1 (dk T_X11_fitsGrain 44 rfl) ic_1 ?_
  refine lv_goto (tgt := 90) X.1 X.2.1 (dk T_X11_fitsGrain 45 rfl) rfl ?_
  obtain rfl := Option.some.inj h
  exact KR _ _ _ _ Y (dk T_X11_fitsGrain 47 rfl)
def f_X11_fitsGrain_j54 (x4 : Int32) (x5 : Int32) (s0 : Int32) (σ : St) : Option (Int32) :=
  if x4 = 0 then f_X11_fitsGrain_j85 σ else if x5 = 0 then f_X11_fitsGrain_j85 σ else if x4 = 1 then if s0 = 0 then some 0 else f_X11_fitsGrain_j85 σ else if s0 = 0 then f_X11_fitsGrain_j85 σ else some 0
set_option maxHeartbeats 4000000 in
set_option maxRecDepth 100000 in
theorem w_X11_fitsGrain_j54 (X : Cx g RX11 cX11_fitsGrain 7 (some .boolean) p s m args meth c) (x4 : Int32) (x5 : Int32) (s0 : Int32) (σ : St) {w : Int32} (KR : ∀ (H : Heap) (locs : List Loc) (ls : Array Slot) (pc : Nat), Wd g s σ H locs → decode cX11_fitsGrain pc = .ok (.ireturn, 1) → W p l e (rmm 0 0) s m args below meth c H locs 0 0 Q (F0 m pc ls [.int (w)])) {H : Heap} {locs : List Loc} {ls : Array Slot} (Y : Wd g s σ H locs) (hl : lv_has ls 7 [(4, .int (x4)), (5, .int (x5))]) (h : f_X11_fitsGrain_j54 x4 x5 s0 σ = some w) : W p l e (rmm 0 0) s m args below meth c H locs 0 0 Q (F0 m 54 ls [.int (s0)]) := by
  unfold f_X11_fitsGrain_j54 at h
  refine lv_istore (lv' := [(6, .int (s0)), (4, .int (x4)), (5, .int (x5))]) X.1 X.2.1 (dk T_X11_fitsGrain 31 rfl) hl (Nat.le_of_ble_eq_true rfl) rfl (fun ls hl => ?_)
  refine lv_iload X.1 X.2.1 (dk T_X11_fitsGrain 32 rfl) (lv_at hl 1 rfl) ?_
  refine lv_if_eq (tgt := 85) X.1 X.2.1 (dk T_X11_fitsGrain 33 rfl) rfl (fun c6 => ?_) (fun c6 => ?_)
  · replace h := ipos c6 h
    exact w_X11_fitsGrain_j85 X σ KR Y (lv_sub hl [] rfl) h
  · replace h := ineg c6 h
    refine lv_iload X.1 X.2.1 (dk T_X11_fitsGrain 34 rfl) (lv_at hl 2 rfl) ?_
    refine lv_if_eq (tgt := 85) X.1 X.2.1 (dk T_X11_fitsGrain 35 rfl) rfl (fun c7 => ?_) (fun c7 => ?_)
    · replace h := ipos c7 h
      exact w_X11_fitsGrain_j85 X σ KR Y (lv_sub hl [] rfl) h
    · replace h := ineg c7 h
      refine lv_iload X.1 X.2.1 (dk T_X11_fitsGrain 36 rfl) (lv_at hl 1 rfl) ?_
      refine lv_iconst (v := 1) X.1 X.2.1 (dk T_X11_fitsGrain 37 rfl) ic_1 ?_
      refine lv_icmp_ne (tgt := 80) X.1 X.2.1 (dk T_X11_fitsGrain 38 rfl) rfl (fun c8 => ?_) (fun c8 => ?_)
      · replace h := ineg c8 h
        refine lv_iload X.1 X.2.1 (dk T_X11_fitsGrain 42 rfl) (lv_at hl 0 rfl) ?_
        refine lv_if_ne (tgt := 89) X.1 X.2.1 (dk T_X11_fitsGrain 43 rfl) rfl (fun c9 => ?_) (fun c9 => ?_)
        · replace h := ineg c9 h
          refine lv_iconst (v := 0) X.1 X.2.1 (dk T_X11_fitsGrain 46 rfl) ic_0 ?_
          obtain rfl := Option.some.inj h
          exact KR _ _ _ _ Y (dk T_X11_fitsGrain 47 rfl)
        · replace h := ipos c9 h
          exact w_X11_fitsGrain_j85 X σ KR Y (lv_sub hl [] rfl) h
      · replace h := ipos c8 h
        refine lv_iload X.1 X.2.1 (dk T_X11_fitsGrain 39 rfl) (lv_at hl 0 rfl) ?_
        refine lv_if_eq (tgt := 89) X.1 X.2.1 (dk T_X11_fitsGrain 40 rfl) rfl (fun c10 => ?_) (fun c10 => ?_)
        · replace h := ipos c10 h
          refine lv_iconst (v := 0) X.1 X.2.1 (dk T_X11_fitsGrain 46 rfl) ic_0 ?_
          obtain rfl := Option.some.inj h
          exact KR _ _ _ _ Y (dk T_X11_fitsGrain 47 rfl)
        · replace h := ineg c10 h
          refine lv_goto (tgt := 85) X.1 X.2.1 (dk T_X11_fitsGrain 41 rfl) rfl ?_
          exact w_X11_fitsGrain_j85 X σ KR Y (lv_sub hl [] rfl) h
def f_X11_fitsGrain_0 (x1 : Int32) (x2 : Int32) (x3 : Int32) (σ : St) : Option (Int32) :=
  chk (inb (645 + x1) 761) (chk (inb (15 + x2) 761) (chk (nz 2) (if (x3 - x3 / 2 * 2) = 0 then if (σ 102 (15 + x2).toNatClampNeg) = 1 then f_X11_fitsGrain_j54 (σ 102 (645 + x1).toNatClampNeg) (σ 102 (15 + x2).toNatClampNeg) 1 σ else f_X11_fitsGrain_j54 (σ 102 (645 + x1).toNatClampNeg) (σ 102 (15 + x2).toNatClampNeg) 0 σ else if (σ 102 (15 + x2).toNatClampNeg) = 2 then f_X11_fitsGrain_j54 (σ 102 (645 + x1).toNatClampNeg) (σ 102 (15 + x2).toNatClampNeg) 1 σ else f_X11_fitsGrain_j54 (σ 102 (645 + x1).toNatClampNeg) (σ 102 (15 + x2).toNatClampNeg) 0 σ)))
set_option maxHeartbeats 4000000 in
set_option maxRecDepth 100000 in
theorem w_X11_fitsGrain_0 (X : Cx g RX11 cX11_fitsGrain 7 (some .boolean) p s m args meth c) (x1 : Int32) (x2 : Int32) (x3 : Int32) (σ : St) {w : Int32} (KR : ∀ (H : Heap) (locs : List Loc) (ls : Array Slot) (pc : Nat), Wd g s σ H locs → decode cX11_fitsGrain pc = .ok (.ireturn, 1) → W p l e (rmm 0 0) s m args below meth c H locs 0 0 Q (F0 m pc ls [.int (w)])) {H : Heap} {locs : List Loc} {ls : Array Slot} (Y : Wd g s σ H locs) (hl : lv_has ls 7 [(0, .ref (g.2.2 (101))), (1, .int (x1)), (2, .int (x2)), (3, .int (x3))]) (h : f_X11_fitsGrain_0 x1 x2 x3 σ = some w) : W p l e (rmm 0 0) s m args below meth c H locs 0 0 Q (F0 m 0 ls []) := by
  unfold f_X11_fitsGrain_0 at h
  refine lv_aload_n X.1 X.2.1 (dk T_X11_fitsGrain 0 rfl) rfl (lv_at hl 0 rfl) ?_
  refine gg X Y fl_X11_7 rfl rfl (dk T_X11_fitsGrain 1 rfl) ?_
  refine lv_sipush (v := 645) X.1 X.2.1 (dk T_X11_fitsGrain 2 rfl) sp_645 ?_
  refine lv_iload_n X.1 X.2.1 (dk T_X11_fitsGrain 3 rfl) rfl (lv_at hl 1 rfl) ?_
  refine lv_iadd X.1 X.2.1 (dk T_X11_fitsGrain 4 rfl) ?_
  obtain ⟨g1, h⟩ := gd h
  refine gil X Y rfl (inp g1) (dk T_X11_fitsGrain 5 rfl) ?_
  refine lv_istore (lv' := [(4, .int (σ 102 (645 + x1).toNatClampNeg)), (0, .ref (g.2.2 (101))), (1, .int (x1)), (2, .int (x2)), (3, .int (x3))]) X.1 X.2.1 (dk T_X11_fitsGrain 6 rfl) hl (Nat.le_of_ble_eq_true rfl) rfl (fun ls hl => ?_)
  refine lv_aload_n X.1 X.2.1 (dk T_X11_fitsGrain 7 rfl) rfl (lv_at hl 1 rfl) ?_
  refine gg X Y fl_X11_7 rfl rfl (dk T_X11_fitsGrain 8 rfl) ?_
  refine lv_bipush (v := 15) X.1 X.2.1 (dk T_X11_fitsGrain 9 rfl) bp_15 ?_
  refine lv_iload_n X.1 X.2.1 (dk T_X11_fitsGrain 10 rfl) rfl (lv_at hl 3 rfl) ?_
  refine lv_iadd X.1 X.2.1 (dk T_X11_fitsGrain 11 rfl) ?_
  obtain ⟨g2, h⟩ := gd h
  refine gil X Y rfl (inp g2) (dk T_X11_fitsGrain 12 rfl) ?_
  refine lv_istore (lv' := [(5, .int (σ 102 (15 + x2).toNatClampNeg)), (4, .int (σ 102 (645 + x1).toNatClampNeg)), (0, .ref (g.2.2 (101))), (1, .int (x1)), (2, .int (x2)), (3, .int (x3))]) X.1 X.2.1 (dk T_X11_fitsGrain 13 rfl) hl (Nat.le_of_ble_eq_true rfl) rfl (fun ls hl => ?_)
  refine lv_iload_n X.1 X.2.1 (dk T_X11_fitsGrain 14 rfl) rfl (lv_at hl 5 rfl) ?_
  refine lv_iconst (v := 2) X.1 X.2.1 (dk T_X11_fitsGrain 15 rfl) ic_2 ?_
  obtain ⟨g3, h⟩ := gd h
  refine lv_irem X.1 X.2.1 (dk T_X11_fitsGrain 16 rfl) (nzp g3) ?_
  refine lv_if_ne (tgt := 43) X.1 X.2.1 (dk T_X11_fitsGrain 17 rfl) rfl (fun c4 => ?_) (fun c4 => ?_)
  · replace h := ineg c4 h
    refine lv_iload X.1 X.2.1 (dk T_X11_fitsGrain 25 rfl) (lv_at hl 0 rfl) ?_
    refine lv_iconst (v := 2) X.1 X.2.1 (dk T_X11_fitsGrain 26 rfl) ic_2 ?_
    refine lv_icmp_ne (tgt := 53) X.1 X.2.1 (dk T_X11_fitsGrain 27 rfl) rfl (fun c5 => ?_) (fun c5 => ?_)
    · replace h := ineg c5 h
      refine lv_iconst (v := 0) X.1 X.2.1 (dk T_X11_fitsGrain 30 rfl) ic_0 ?_
      exact w_X11_fitsGrain_j54 X (σ 102 (645 + x1).toNatClampNeg) (σ 102 (15 + x2).toNatClampNeg) 0 σ KR Y (lv_sub hl [1, 0] rfl) h
    · replace h := ipos c5 h
      refine lv_iconst (v := 1) X.1 X.2.1 (dk T_X11_fitsGrain 28 rfl) ic_1 ?_
      refine lv_goto (tgt := 54) X.1 X.2.1 (dk T_X11_fitsGrain 29 rfl) rfl ?_
      exact w_X11_fitsGrain_j54 X (σ 102 (645 + x1).toNatClampNeg) (σ 102 (15 + x2).toNatClampNeg) 1 σ KR Y (lv_sub hl [1, 0] rfl) h
  · replace h := ipos c4 h
    refine lv_iload X.1 X.2.1 (dk T_X11_fitsGrain 18 rfl) (lv_at hl 0 rfl) ?_
    refine lv_iconst (v := 1) X.1 X.2.1 (dk T_X11_fitsGrain 19 rfl) ic_1 ?_
    refine lv_icmp_ne (tgt := 39) X.1 X.2.1 (dk T_X11_fitsGrain 20 rfl) rfl (fun c11 => ?_) (fun c11 => ?_)
    · replace h := ineg c11 h
      refine lv_iconst (v := 0) X.1 X.2.1 (dk T_X11_fitsGrain 23 rfl) ic_0 ?_
      refine lv_goto (tgt := 54) X.1 X.2.1 (dk T_X11_fitsGrain 24 rfl) rfl ?_
      exact w_X11_fitsGrain_j54 X (σ 102 (645 + x1).toNatClampNeg) (σ 102 (15 + x2).toNatClampNeg) 0 σ KR Y (lv_sub hl [1, 0] rfl) h
    · replace h := ipos c11 h
      refine lv_iconst (v := 1) X.1 X.2.1 (dk T_X11_fitsGrain 21 rfl) ic_1 ?_
      refine lv_goto (tgt := 54) X.1 X.2.1 (dk T_X11_fitsGrain 22 rfl) rfl ?_
      exact w_X11_fitsGrain_j54 X (σ 102 (645 + x1).toNatClampNeg) (σ 102 (15 + x2).toNatClampNeg) 1 σ KR Y (lv_sub hl [1, 0] rfl) h
def f_X11_fitsGrain (x1 : Int32) (x2 : Int32) (x3 : Int32) (σ : St) : Option (Int32) := bz (f_X11_fitsGrain_0 x1 x2 x3 σ)
set_option maxHeartbeats 4000000 in
set_option maxRecDepth 100000 in
theorem c_X11_fitsGrain {l : Launch} {g : Geo} (x1 : Int32) (x2 : Int32) (x3 : Int32) (σ : St) {w : Int32} (h : f_X11_fitsGrain x1 x2 x3 σ = some w) : CtI l yX11_fitsGrain cX11_fitsGrain 7 (some .boolean) (rmm 0 0) g [.ref (g.2.2 (101)), .int (x1), .int (x2), .int (x3)] σ w σ := by
  obtain ⟨h, hz⟩ := bz_s h
  exact enI .boolean (by decide) rfl (bz_n hz) (Nat.le_of_ble_eq_true rfl) (fun p e s m args below meth c Q X Y ls hl KR => w_X11_fitsGrain_0 X x1 x2 x3 σ KR Y hl h)
def I_X11_why : List (Nat × Instr × Nat) := [(0, .aload_n 0, 1), (1, .getfield 43, 3), (4, .iload_n 1, 1), (5, .iload_n 2, 1), (6, .iastore, 1), (7, .aload_n 0, 1), (8, .getfield 46, 3), (11, .iload_n 1, 1), (12, .iload_n 3, 1), (13, .iastore, 1), (14, .aload_n 0, 1), (15, .iload_n 1, 1), (16, .iconst 1, 1), (17, .iadd, 1), (18, .putfield 200, 3), (21, .return_, 1)]
set_option maxRecDepth 100000 in
theorem T_X11_why : ∀ q ∈ I_X11_why, decode cX11_why q.1 = .ok (q.2.1, q.2.2) := by decide +kernel
def f_X11_why_0 (x1 : Int32) (x2 : Int32) (x3 : Int32) (σ : St) : Option (St) :=
  chk (inb x1 3) (chk (inb x1 3) (some (up (up (up σ 113 x1.toNatClampNeg x2) 114 x1.toNatClampNeg x3) 101 20 (x1 + 1))))
set_option maxHeartbeats 4000000 in
set_option maxRecDepth 100000 in
theorem w_X11_why_0 (X : Cx g RX11 cX11_why 4 none p s m args meth c) (x1 : Int32) (x2 : Int32) (x3 : Int32) (σ : St) {w : St} (KR : ∀ (H : Heap) (locs : List Loc) (ls : Array Slot) (pc : Nat), Wd g s w H locs → decode cX11_why pc = .ok (.return_, 1) → W p l e (rmm 0 0) s m args below meth c H locs 0 0 Q (F0 m pc ls [])) {H : Heap} {locs : List Loc} {ls : Array Slot} (Y : Wd g s σ H locs) (hl : lv_has ls 4 [(0, .ref (g.2.2 (101))), (1, .int (x1)), (2, .int (x2)), (3, .int (x3))]) (h : f_X11_why_0 x1 x2 x3 σ = some w) : W p l e (rmm 0 0) s m args below meth c H locs 0 0 Q (F0 m 0 ls []) := by
  unfold f_X11_why_0 at h
  refine lv_aload_n X.1 X.2.1 (dk T_X11_why 0 rfl) rfl (lv_at hl 0 rfl) ?_
  refine gg X Y fl_X11_43 rfl rfl (dk T_X11_why 1 rfl) ?_
  refine lv_iload_n X.1 X.2.1 (dk T_X11_why 2 rfl) rfl (lv_at hl 1 rfl) ?_
  refine lv_iload_n X.1 X.2.1 (dk T_X11_why 3 rfl) rfl (lv_at hl 2 rfl) ?_
  obtain ⟨g1, h⟩ := gd h
  refine gis X Y rfl (inp g1) (dk T_X11_why 4 rfl) (fun H locs Y => ?_)
  refine lv_aload_n X.1 X.2.1 (dk T_X11_why 5 rfl) rfl (lv_at hl 0 rfl) ?_
  refine gg X Y fl_X11_46 rfl rfl (dk T_X11_why 6 rfl) ?_
  refine lv_iload_n X.1 X.2.1 (dk T_X11_why 7 rfl) rfl (lv_at hl 1 rfl) ?_
  refine lv_iload_n X.1 X.2.1 (dk T_X11_why 8 rfl) rfl (lv_at hl 3 rfl) ?_
  obtain ⟨g2, h⟩ := gd h
  refine gis X Y rfl (inp g2) (dk T_X11_why 9 rfl) (fun H locs Y => ?_)
  refine lv_aload_n X.1 X.2.1 (dk T_X11_why 10 rfl) rfl (lv_at hl 0 rfl) ?_
  refine lv_iload_n X.1 X.2.1 (dk T_X11_why 11 rfl) rfl (lv_at hl 1 rfl) ?_
  refine lv_iconst (v := 1) X.1 X.2.1 (dk T_X11_why 12 rfl) ic_1 ?_
  refine lv_iadd X.1 X.2.1 (dk T_X11_why 13 rfl) ?_
  refine gp X Y fp_X11_200 rfl (nar_int _) (dk T_X11_why 14 rfl) (fun H locs Y => ?_)
  obtain rfl := Option.some.inj h
  exact KR _ _ _ _ Y (dk T_X11_why 15 rfl)
def f_X11_why (x1 : Int32) (x2 : Int32) (x3 : Int32) (σ : St) : Option (St) := f_X11_why_0 x1 x2 x3 σ
set_option maxHeartbeats 4000000 in
set_option maxRecDepth 100000 in
theorem c_X11_why {l : Launch} {g : Geo} (x1 : Int32) (x2 : Int32) (x3 : Int32) (σ : St) {w : St} (h : f_X11_why x1 x2 x3 σ = some w) : CtV l yX11_why cX11_why 4 none (rmm 0 0) g [.ref (g.2.2 (101)), .int (x1), .int (x2), .int (x3)] σ w := enV (by decide) rfl (Nat.le_of_ble_eq_true rfl) (fun p e s m args below meth c Q X Y ls hl KR => w_X11_why_0 X x1 x2 x3 σ KR Y hl h)
def I_X11_judgesPlace : List (Nat × Instr × Nat) := [(0, .aload_n 0, 1), (1, .getfield 7, 3), (4, .iconst 3, 1), (5, .iload_n 2, 1), (6, .iadd, 1), (7, .iaload, 1), (8, .istore 8, 2), (10, .aload_n 0, 1), (11, .getfield 7, 3), (14, .bipush 9, 2), (16, .iload_n 2, 1), (17, .iadd, 1), (18, .iaload, 1), (19, .istore 9, 2), (21, .lload 5, 2), (23, .lconst 0, 1), (24, .lcmp, 1), (25, .ifCond .ge 7, 3), (28, .iconst 0, 1), (29, .goto 39, 3), (32, .lload_n 3, 1), (33, .iload 8, 2), (35, .i2l, 1), (36, .lcmp, 1), (37, .ifCond .lt 7, 3), (40, .iconst 1, 1), (41, .goto 27, 3), (44, .lload 5, 2), (46, .iload 9, 2), (48, .i2l, 1), (49, .lcmp, 1), (50, .ifCond .lt 7, 3), (53, .iconst 2, 1), (54, .goto 14, 3), (57, .lload_n 3, 1), (58, .lconst 0, 1), (59, .lcmp, 1), (60, .ifCond .ge 7, 3), (63, .iconst 3, 1), (64, .goto 4, 3), (67, .iconst (-1), 1), (68, .istore 10, 2), (70, .iload 10, 2), (72, .iconst (-1), 1), (73, .if_icmp .ne 16, 3), (76, .iload 8, 2), (78, .lload_n 3, 1), (79, .l2i, 1), (80, .lload 5, 2), (82, .l2i, 1), (83, .invokestatic 102, 3), (86, .goto 4, 3), (89, .iconst 0, 1), (90, .istore 11, 2), (92, .iload 10, 2), (94, .iconst (-1), 1), (95, .if_icmp .ne 14, 3), (98, .aload_n 0, 1), (99, .iload_n 2, 1), (100, .iload 11, 2), (102, .invokevirtual 152, 3), (105, .ifCond .eq 4, 3), (108, .return_, 1), (109, .aload_n 0, 1), (110, .iconst 0, 1), (111, .iconst 1, 1), (112, .iload_n 1, 1), (113, .invokevirtual 206, 3), (116, .aload_n 0, 1), (117, .iconst 1, 1), (118, .iconst 5, 1), (119, .iload 7, 2), (121, .invokevirtual 206, 3), (124, .iload 10, 2), (126, .iconst (-1), 1), (127, .if_icmp .eq 15, 3), (130, .aload_n 0, 1), (131, .iconst 2, 1), (132, .bipush 6, 2), (134, .iload 10, 2), (136, .invokevirtual 206, 3), (139, .goto 39, 3), (142, .aload_n 0, 1), (143, .iload_n 2, 1), (144, .iload 11, 2), (146, .invokevirtual 142, 3), (149, .ifCond .ne 15, 3), (152, .aload_n 0, 1), (153, .iconst 2, 1), (154, .bipush 7, 2), (156, .iload 11, 2), (158, .invokevirtual 206, 3), (161, .goto 17, 3), (164, .aload_n 0, 1), (165, .iconst 2, 1), (166, .bipush 8, 2), (168, .aload_n 0, 1), (169, .getfield 37, 3), (172, .iload 11, 2), (174, .iaload, 1), (175, .invokevirtual 206, 3), (178, .return_, 1)]
set_option maxRecDepth 100000 in
theorem T_X11_judgesPlace : ∀ q ∈ I_X11_judgesPlace, decode cX11_judgesPlace q.1 = .ok (q.2.1, q.2.2) := by decide +kernel
def f_X11_judgesPlace_j109 (x1 : Int32) (x2 : Int32) (x7 : Int32) (x10 : Int32) (x11 : Int32) (σ : St) : Option (St) :=
  (f_X11_why 0 1 x1 σ).bind fun q9 => (f_X11_why 1 5 x7 q9).bind fun q10 => if x10 = (-1) then (f_X11_isUsable x2 x11 q10).bind fun q12 => if q12 = 0 then (f_X11_why 2 7 x11 q10).bind fun q16 => some q16 else chk (inb x11 100) ((f_X11_why 2 8 (q10 111 x11.toNatClampNeg) q10).bind fun q15 => some q15) else (f_X11_why 2 6 x10 q10).bind fun q17 => some q17
set_option maxHeartbeats 4000000 in
set_option maxRecDepth 100000 in
theorem w_X11_judgesPlace_j109 (X : Cx g RX11 cX11_judgesPlace 12 none p s m args meth c) (x1 : Int32) (x2 : Int32) (x7 : Int32) (x10 : Int32) (x11 : Int32) (σ : St) {w : St} (KR : ∀ (H : Heap) (locs : List Loc) (ls : Array Slot) (pc : Nat), Wd g s w H locs → decode cX11_judgesPlace pc = .ok (.return_, 1) → W p l e (rmm 2 44) s m args below meth c H locs 0 0 Q (F0 m pc ls [])) {H : Heap} {locs : List Loc} {ls : Array Slot} (Y : Wd g s σ H locs) (hl : lv_has ls 12 [(0, .ref (g.2.2 (101))), (1, .int (x1)), (2, .int (x2)), (7, .int (x7)), (10, .int (x10)), (11, .int (x11))]) (h : f_X11_judgesPlace_j109 x1 x2 x7 x10 x11 σ = some w) : W p l e (rmm 2 44) s m args below meth c H locs 0 0 Q (F0 m 109 ls []) := by
  unfold f_X11_judgesPlace_j109 at h
  refine lv_aload_n X.1 X.2.1 (dk T_X11_judgesPlace 63 rfl) rfl (lv_at hl 0 rfl) ?_
  refine lv_iconst (v := 0) X.1 X.2.1 (dk T_X11_judgesPlace 64 rfl) ic_0 ?_
  refine lv_iconst (v := 1) X.1 X.2.1 (dk T_X11_judgesPlace 65 rfl) ic_1 ?_
  refine lv_iload_n X.1 X.2.1 (dk T_X11_judgesPlace 66 rfl) rfl (lv_at hl 1 rfl) ?_
  obtain ⟨q9, hq9, h⟩ := bs h
  refine gvV (rest := []) X Y (c_X11_why 0 1 x1 σ hq9) cb_X11_206 rfl hl.1 rfl rfl (Nat.le_of_ble_eq_true rfl) ⟨Nat.le_of_ble_eq_true rfl, Nat.le_of_ble_eq_true rfl⟩ (dk T_X11_judgesPlace 67 rfl) (fun H locs Y => ?_)
  refine lv_aload_n X.1 X.2.1 (dk T_X11_judgesPlace 68 rfl) rfl (lv_at hl 0 rfl) ?_
  refine lv_iconst (v := 1) X.1 X.2.1 (dk T_X11_judgesPlace 69 rfl) ic_1 ?_
  refine lv_iconst (v := 5) X.1 X.2.1 (dk T_X11_judgesPlace 70 rfl) ic_5 ?_
  refine lv_iload X.1 X.2.1 (dk T_X11_judgesPlace 71 rfl) (lv_at hl 3 rfl) ?_
  obtain ⟨q10, hq10, h⟩ := bs h
  refine gvV (rest := []) X Y (c_X11_why 1 5 x7 q9 hq10) cb_X11_206 rfl hl.1 rfl rfl (Nat.le_of_ble_eq_true rfl) ⟨Nat.le_of_ble_eq_true rfl, Nat.le_of_ble_eq_true rfl⟩ (dk T_X11_judgesPlace 72 rfl) (fun H locs Y => ?_)
  refine lv_iload X.1 X.2.1 (dk T_X11_judgesPlace 73 rfl) (lv_at hl 4 rfl) ?_
  refine lv_iconst (v := (-1)) X.1 X.2.1 (dk T_X11_judgesPlace 74 rfl) ic_m1 ?_
  refine lv_icmp_eq (tgt := 142) X.1 X.2.1 (dk T_X11_judgesPlace 75 rfl) rfl (fun c11 => ?_) (fun c11 => ?_)
  · replace h := ipos c11 h
    refine lv_aload_n X.1 X.2.1 (dk T_X11_judgesPlace 82 rfl) rfl (lv_at hl 0 rfl) ?_
    refine lv_iload_n X.1 X.2.1 (dk T_X11_judgesPlace 83 rfl) rfl (lv_at hl 2 rfl) ?_
    refine lv_iload X.1 X.2.1 (dk T_X11_judgesPlace 84 rfl) (lv_at hl 5 rfl) ?_
    obtain ⟨q12, hq12, h⟩ := bs h
    refine gvI (rest := []) X Y (c_X11_isUsable x2 x11 q10 hq12) cb_X11_142 rfl hl.1 rfl rfl (Nat.le_of_ble_eq_true rfl) ⟨Nat.le_of_ble_eq_true rfl, Nat.le_of_ble_eq_true rfl⟩ (dk T_X11_judgesPlace 85 rfl) (fun H locs Y => ?_)
    refine lv_if_ne (tgt := 164) X.1 X.2.1 (dk T_X11_judgesPlace 86 rfl) rfl (fun c13 => ?_) (fun c13 => ?_)
    · replace h := ineg c13 h
      refine lv_aload_n X.1 X.2.1 (dk T_X11_judgesPlace 93 rfl) rfl (lv_at hl 0 rfl) ?_
      refine lv_iconst (v := 2) X.1 X.2.1 (dk T_X11_judgesPlace 94 rfl) ic_2 ?_
      refine lv_bipush (v := 8) X.1 X.2.1 (dk T_X11_judgesPlace 95 rfl) bp_8 ?_
      refine lv_aload_n X.1 X.2.1 (dk T_X11_judgesPlace 96 rfl) rfl (lv_at hl 0 rfl) ?_
      refine gg X Y fl_X11_37 rfl rfl (dk T_X11_judgesPlace 97 rfl) ?_
      refine lv_iload X.1 X.2.1 (dk T_X11_judgesPlace 98 rfl) (lv_at hl 5 rfl) ?_
      obtain ⟨g14, h⟩ := gd h
      refine gil X Y rfl (inp g14) (dk T_X11_judgesPlace 99 rfl) ?_
      obtain ⟨q15, hq15, h⟩ := bs h
      refine gvV (rest := []) X Y (c_X11_why 2 8 (q10 111 x11.toNatClampNeg) q10 hq15) cb_X11_206 rfl hl.1 rfl rfl (Nat.le_of_ble_eq_true rfl) ⟨Nat.le_of_ble_eq_true rfl, Nat.le_of_ble_eq_true rfl⟩ (dk T_X11_judgesPlace 100 rfl) (fun H locs Y => ?_)
      obtain rfl := Option.some.inj h
      exact KR _ _ _ _ Y (dk T_X11_judgesPlace 101 rfl)
    · replace h := ipos c13 h
      refine lv_aload_n X.1 X.2.1 (dk T_X11_judgesPlace 87 rfl) rfl (lv_at hl 0 rfl) ?_
      refine lv_iconst (v := 2) X.1 X.2.1 (dk T_X11_judgesPlace 88 rfl) ic_2 ?_
      refine lv_bipush (v := 7) X.1 X.2.1 (dk T_X11_judgesPlace 89 rfl) bp_7 ?_
      refine lv_iload X.1 X.2.1 (dk T_X11_judgesPlace 90 rfl) (lv_at hl 5 rfl) ?_
      obtain ⟨q16, hq16, h⟩ := bs h
      refine gvV (rest := []) X Y (c_X11_why 2 7 x11 q10 hq16) cb_X11_206 rfl hl.1 rfl rfl (Nat.le_of_ble_eq_true rfl) ⟨Nat.le_of_ble_eq_true rfl, Nat.le_of_ble_eq_true rfl⟩ (dk T_X11_judgesPlace 91 rfl) (fun H locs Y => ?_)
      refine lv_goto (tgt := 178) X.1 X.2.1 (dk T_X11_judgesPlace 92 rfl) rfl ?_
      obtain rfl := Option.some.inj h
      exact KR _ _ _ _ Y (dk T_X11_judgesPlace 101 rfl)
  · replace h := ineg c11 h
    refine lv_aload_n X.1 X.2.1 (dk T_X11_judgesPlace 76 rfl) rfl (lv_at hl 0 rfl) ?_
    refine lv_iconst (v := 2) X.1 X.2.1 (dk T_X11_judgesPlace 77 rfl) ic_2 ?_
    refine lv_bipush (v := 6) X.1 X.2.1 (dk T_X11_judgesPlace 78 rfl) bp_6 ?_
    refine lv_iload X.1 X.2.1 (dk T_X11_judgesPlace 79 rfl) (lv_at hl 4 rfl) ?_
    obtain ⟨q17, hq17, h⟩ := bs h
    refine gvV (rest := []) X Y (c_X11_why 2 6 x10 q10 hq17) cb_X11_206 rfl hl.1 rfl rfl (Nat.le_of_ble_eq_true rfl) ⟨Nat.le_of_ble_eq_true rfl, Nat.le_of_ble_eq_true rfl⟩ (dk T_X11_judgesPlace 80 rfl) (fun H locs Y => ?_)
    refine lv_goto (tgt := 178) X.1 X.2.1 (dk T_X11_judgesPlace 81 rfl) rfl ?_
    obtain rfl := Option.some.inj h
    exact KR _ _ _ _ Y (dk T_X11_judgesPlace 101 rfl)
def f_X11_judgesPlace_j90 (x1 : Int32) (x2 : Int32) (x7 : Int32) (x10 : Int32) (s0 : Int32) (σ : St) : Option (St) :=
  if x10 = (-1) then (f_X11_isFree x2 s0 σ).bind fun q18 => if q18 = 0 then f_X11_judgesPlace_j109 x1 x2 x7 x10 s0 σ else some σ else f_X11_judgesPlace_j109 x1 x2 x7 x10 s0 σ
set_option maxHeartbeats 4000000 in
set_option maxRecDepth 100000 in
theorem w_X11_judgesPlace_j90 (X : Cx g RX11 cX11_judgesPlace 12 none p s m args meth c) (x1 : Int32) (x2 : Int32) (x7 : Int32) (x10 : Int32) (s0 : Int32) (σ : St) {w : St} (KR : ∀ (H : Heap) (locs : List Loc) (ls : Array Slot) (pc : Nat), Wd g s w H locs → decode cX11_judgesPlace pc = .ok (.return_, 1) → W p l e (rmm 2 44) s m args below meth c H locs 0 0 Q (F0 m pc ls [])) {H : Heap} {locs : List Loc} {ls : Array Slot} (Y : Wd g s σ H locs) (hl : lv_has ls 12 [(0, .ref (g.2.2 (101))), (1, .int (x1)), (2, .int (x2)), (7, .int (x7)), (10, .int (x10))]) (h : f_X11_judgesPlace_j90 x1 x2 x7 x10 s0 σ = some w) : W p l e (rmm 2 44) s m args below meth c H locs 0 0 Q (F0 m 90 ls [.int (s0)]) := by
  unfold f_X11_judgesPlace_j90 at h
  refine lv_istore (lv' := [(11, .int (s0)), (0, .ref (g.2.2 (101))), (1, .int (x1)), (2, .int (x2)), (7, .int (x7)), (10, .int (x10))]) X.1 X.2.1 (dk T_X11_judgesPlace 53 rfl) hl (Nat.le_of_ble_eq_true rfl) rfl (fun ls hl => ?_)
  refine lv_iload X.1 X.2.1 (dk T_X11_judgesPlace 54 rfl) (lv_at hl 5 rfl) ?_
  refine lv_iconst (v := (-1)) X.1 X.2.1 (dk T_X11_judgesPlace 55 rfl) ic_m1 ?_
  refine lv_icmp_ne (tgt := 109) X.1 X.2.1 (dk T_X11_judgesPlace 56 rfl) rfl (fun c8 => ?_) (fun c8 => ?_)
  · replace h := ineg c8 h
    exact w_X11_judgesPlace_j109 X x1 x2 x7 x10 s0 σ KR Y (lv_sub hl [1, 2, 3, 4, 5, 0] rfl) h
  · replace h := ipos c8 h
    refine lv_aload_n X.1 X.2.1 (dk T_X11_judgesPlace 57 rfl) rfl (lv_at hl 1 rfl) ?_
    refine lv_iload_n X.1 X.2.1 (dk T_X11_judgesPlace 58 rfl) rfl (lv_at hl 3 rfl) ?_
    refine lv_iload X.1 X.2.1 (dk T_X11_judgesPlace 59 rfl) (lv_at hl 0 rfl) ?_
    obtain ⟨q18, hq18, h⟩ := bs h
    refine gvI (rest := []) X Y (c_X11_isFree x2 s0 σ hq18) cb_X11_152 rfl hl.1 rfl rfl (Nat.le_of_ble_eq_true rfl) ⟨Nat.le_of_ble_eq_true rfl, Nat.le_of_ble_eq_true rfl⟩ (dk T_X11_judgesPlace 60 rfl) (fun H locs Y => ?_)
    refine lv_if_eq (tgt := 109) X.1 X.2.1 (dk T_X11_judgesPlace 61 rfl) rfl (fun c19 => ?_) (fun c19 => ?_)
    · replace h := ipos c19 h
      exact w_X11_judgesPlace_j109 X x1 x2 x7 x10 s0 σ KR Y (lv_sub hl [1, 2, 3, 4, 5, 0] rfl) h
    · replace h := ineg c19 h
      obtain rfl := Option.some.inj h
      exact KR _ _ _ _ Y (dk T_X11_judgesPlace 62 rfl)
def f_X11_judgesPlace_j68 (x1 : Int32) (x2 : Int32) (x3 : Int64) (x5 : Int64) (x7 : Int32) (x8 : Int32) (s0 : Int32) (σ : St) : Option (St) :=
  if s0 = (-1) then (f_X11_at x8 x3.toInt32 x5.toInt32).bind fun q20 => f_X11_judgesPlace_j90 x1 x2 x7 s0 q20 σ else f_X11_judgesPlace_j90 x1 x2 x7 s0 0 σ
set_option maxHeartbeats 4000000 in
set_option maxRecDepth 100000 in
theorem w_X11_judgesPlace_j68 (X : Cx g RX11 cX11_judgesPlace 12 none p s m args meth c) (x1 : Int32) (x2 : Int32) (x3 : Int64) (x5 : Int64) (x7 : Int32) (x8 : Int32) (s0 : Int32) (σ : St) {w : St} (KR : ∀ (H : Heap) (locs : List Loc) (ls : Array Slot) (pc : Nat), Wd g s w H locs → decode cX11_judgesPlace pc = .ok (.return_, 1) → W p l e (rmm 2 44) s m args below meth c H locs 0 0 Q (F0 m pc ls [])) {H : Heap} {locs : List Loc} {ls : Array Slot} (Y : Wd g s σ H locs) (hl : lv_has ls 12 [(0, .ref (g.2.2 (101))), (1, .int (x1)), (2, .int (x2)), (3, .long (x3)), (5, .long (x5)), (7, .int (x7)), (8, .int (x8))]) (h : f_X11_judgesPlace_j68 x1 x2 x3 x5 x7 x8 s0 σ = some w) : W p l e (rmm 2 44) s m args below meth c H locs 0 0 Q (F0 m 68 ls [.int (s0)]) := by
  unfold f_X11_judgesPlace_j68 at h
  refine lv_istore (lv' := [(10, .int (s0)), (0, .ref (g.2.2 (101))), (1, .int (x1)), (2, .int (x2)), (3, .long (x3)), (5, .long (x5)), (7, .int (x7)), (8, .int (x8))]) X.1 X.2.1 (dk T_X11_judgesPlace 41 rfl) hl (Nat.le_of_ble_eq_true rfl) rfl (fun ls hl => ?_)
  refine lv_iload X.1 X.2.1 (dk T_X11_judgesPlace 42 rfl) (lv_at hl 0 rfl) ?_
  refine lv_iconst (v := (-1)) X.1 X.2.1 (dk T_X11_judgesPlace 43 rfl) ic_m1 ?_
  refine lv_icmp_ne (tgt := 89) X.1 X.2.1 (dk T_X11_judgesPlace 44 rfl) rfl (fun c7 => ?_) (fun c7 => ?_)
  · replace h := ineg c7 h
    refine lv_iconst (v := 0) X.1 X.2.1 (dk T_X11_judgesPlace 52 rfl) ic_0 ?_
    exact w_X11_judgesPlace_j90 X x1 x2 x7 s0 0 σ KR Y (lv_sub hl [1, 2, 3, 6, 0] rfl) h
  · replace h := ipos c7 h
    refine lv_iload X.1 X.2.1 (dk T_X11_judgesPlace 45 rfl) (lv_at hl 7 rfl) ?_
    refine lv_lload_n X.1 X.2.1 (dk T_X11_judgesPlace 46 rfl) rfl (lv_at hl 4 rfl) ?_
    refine lv_l2i X.1 X.2.1 (dk T_X11_judgesPlace 47 rfl) rfl ?_
    refine lv_lload X.1 X.2.1 (dk T_X11_judgesPlace 48 rfl) (lv_at hl 5 rfl) ?_
    refine lv_l2i X.1 X.2.1 (dk T_X11_judgesPlace 49 rfl) rfl ?_
    obtain ⟨q20, hq20, h⟩ := bs h
    refine gsI (rest := []) X Y (c_X11_at x8 x3.toInt32 x5.toInt32 σ hq20) cb_X11_102 hl.1 rfl rfl (Nat.le_of_ble_eq_true rfl) ⟨Nat.le_of_ble_eq_true rfl, Nat.le_of_ble_eq_true rfl⟩ (dk T_X11_judgesPlace 50 rfl) (fun H locs Y => ?_)
    refine lv_goto (tgt := 90) X.1 X.2.1 (dk T_X11_judgesPlace 51 rfl) rfl ?_
    exact w_X11_judgesPlace_j90 X x1 x2 x7 s0 q20 σ KR Y (lv_sub hl [1, 2, 3, 6, 0] rfl) h
def f_X11_judgesPlace_0 (x1 : Int32) (x2 : Int32) (x3 : Int64) (x5 : Int64) (x7 : Int32) (σ : St) : Option (St) :=
  chk (inb (3 + x2) 761) (chk (inb (9 + x2) 761) (if 0 ≤ (lg_cmp x5 0) then if (lg_cmp x3 ((σ 102 (3 + x2).toNatClampNeg).toInt64)) < 0 then if (lg_cmp x5 ((σ 102 (9 + x2).toNatClampNeg).toInt64)) < 0 then if 0 ≤ (lg_cmp x3 0) then f_X11_judgesPlace_j68 x1 x2 x3 x5 x7 (σ 102 (3 + x2).toNatClampNeg) (-1) σ else f_X11_judgesPlace_j68 x1 x2 x3 x5 x7 (σ 102 (3 + x2).toNatClampNeg) 3 σ else f_X11_judgesPlace_j68 x1 x2 x3 x5 x7 (σ 102 (3 + x2).toNatClampNeg) 2 σ else f_X11_judgesPlace_j68 x1 x2 x3 x5 x7 (σ 102 (3 + x2).toNatClampNeg) 1 σ else f_X11_judgesPlace_j68 x1 x2 x3 x5 x7 (σ 102 (3 + x2).toNatClampNeg) 0 σ))
set_option maxHeartbeats 4000000 in
set_option maxRecDepth 100000 in
theorem w_X11_judgesPlace_0 (X : Cx g RX11 cX11_judgesPlace 12 none p s m args meth c) (x1 : Int32) (x2 : Int32) (x3 : Int64) (x5 : Int64) (x7 : Int32) (σ : St) {w : St} (KR : ∀ (H : Heap) (locs : List Loc) (ls : Array Slot) (pc : Nat), Wd g s w H locs → decode cX11_judgesPlace pc = .ok (.return_, 1) → W p l e (rmm 2 44) s m args below meth c H locs 0 0 Q (F0 m pc ls [])) {H : Heap} {locs : List Loc} {ls : Array Slot} (Y : Wd g s σ H locs) (hl : lv_has ls 12 [(0, .ref (g.2.2 (101))), (1, .int (x1)), (2, .int (x2)), (3, .long (x3)), (5, .long (x5)), (7, .int (x7))]) (h : f_X11_judgesPlace_0 x1 x2 x3 x5 x7 σ = some w) : W p l e (rmm 2 44) s m args below meth c H locs 0 0 Q (F0 m 0 ls []) := by
  unfold f_X11_judgesPlace_0 at h
  refine lv_aload_n X.1 X.2.1 (dk T_X11_judgesPlace 0 rfl) rfl (lv_at hl 0 rfl) ?_
  refine gg X Y fl_X11_7 rfl rfl (dk T_X11_judgesPlace 1 rfl) ?_
  refine lv_iconst (v := 3) X.1 X.2.1 (dk T_X11_judgesPlace 2 rfl) ic_3 ?_
  refine lv_iload_n X.1 X.2.1 (dk T_X11_judgesPlace 3 rfl) rfl (lv_at hl 2 rfl) ?_
  refine lv_iadd X.1 X.2.1 (dk T_X11_judgesPlace 4 rfl) ?_
  obtain ⟨g1, h⟩ := gd h
  refine gil X Y rfl (inp g1) (dk T_X11_judgesPlace 5 rfl) ?_
  refine lv_istore (lv' := [(8, .int (σ 102 (3 + x2).toNatClampNeg)), (0, .ref (g.2.2 (101))), (1, .int (x1)), (2, .int (x2)), (3, .long (x3)), (5, .long (x5)), (7, .int (x7))]) X.1 X.2.1 (dk T_X11_judgesPlace 6 rfl) hl (Nat.le_of_ble_eq_true rfl) rfl (fun ls hl => ?_)
  refine lv_aload_n X.1 X.2.1 (dk T_X11_judgesPlace 7 rfl) rfl (lv_at hl 1 rfl) ?_
  refine gg X Y fl_X11_7 rfl rfl (dk T_X11_judgesPlace 8 rfl) ?_
  refine lv_bipush (v := 9) X.1 X.2.1 (dk T_X11_judgesPlace 9 rfl) bp_9 ?_
  refine lv_iload_n X.1 X.2.1 (dk T_X11_judgesPlace 10 rfl) rfl (lv_at hl 3 rfl) ?_
  refine lv_iadd X.1 X.2.1 (dk T_X11_judgesPlace 11 rfl) ?_
  obtain ⟨g2, h⟩ := gd h
  refine gil X Y rfl (inp g2) (dk T_X11_judgesPlace 12 rfl) ?_
  refine lv_istore (lv' := [(9, .int (σ 102 (9 + x2).toNatClampNeg)), (8, .int (σ 102 (3 + x2).toNatClampNeg)), (0, .ref (g.2.2 (101))), (1, .int (x1)), (2, .int (x2)), (3, .long (x3)), (5, .long (x5)), (7, .int (x7))]) X.1 X.2.1 (dk T_X11_judgesPlace 13 rfl) hl (Nat.le_of_ble_eq_true rfl) rfl (fun ls hl => ?_)
  refine lv_lload X.1 X.2.1 (dk T_X11_judgesPlace 14 rfl) (lv_at hl 6 rfl) ?_
  refine lv_lconst (v := 0) X.1 X.2.1 (dk T_X11_judgesPlace 15 rfl) lc_0 ?_
  refine W.lcmp X.1 X.2.1 (dk T_X11_judgesPlace 16 rfl) ?_
  refine lv_if_ge (tgt := 32) X.1 X.2.1 (dk T_X11_judgesPlace 17 rfl) rfl (fun c3 => ?_) (fun c3 => ?_)
  · replace h := ipos c3 h
    refine lv_lload_n X.1 X.2.1 (dk T_X11_judgesPlace 20 rfl) rfl (lv_at hl 5 rfl) ?_
    refine lv_iload X.1 X.2.1 (dk T_X11_judgesPlace 21 rfl) (lv_at hl 1 rfl) ?_
    refine lv_i2l X.1 X.2.1 (dk T_X11_judgesPlace 22 rfl) rfl ?_
    refine W.lcmp X.1 X.2.1 (dk T_X11_judgesPlace 23 rfl) ?_
    refine lv_if_lt (tgt := 44) X.1 X.2.1 (dk T_X11_judgesPlace 24 rfl) rfl (fun c4 => ?_) (fun c4 => ?_)
    · replace h := ipos c4 h
      refine lv_lload X.1 X.2.1 (dk T_X11_judgesPlace 27 rfl) (lv_at hl 6 rfl) ?_
      refine lv_iload X.1 X.2.1 (dk T_X11_judgesPlace 28 rfl) (lv_at hl 0 rfl) ?_
      refine lv_i2l X.1 X.2.1 (dk T_X11_judgesPlace 29 rfl) rfl ?_
      refine W.lcmp X.1 X.2.1 (dk T_X11_judgesPlace 30 rfl) ?_
      refine lv_if_lt (tgt := 57) X.1 X.2.1 (dk T_X11_judgesPlace 31 rfl) rfl (fun c5 => ?_) (fun c5 => ?_)
      · replace h := ipos c5 h
        refine lv_lload_n X.1 X.2.1 (dk T_X11_judgesPlace 34 rfl) rfl (lv_at hl 5 rfl) ?_
        refine lv_lconst (v := 0) X.1 X.2.1 (dk T_X11_judgesPlace 35 rfl) lc_0 ?_
        refine W.lcmp X.1 X.2.1 (dk T_X11_judgesPlace 36 rfl) ?_
        refine lv_if_ge (tgt := 67) X.1 X.2.1 (dk T_X11_judgesPlace 37 rfl) rfl (fun c6 => ?_) (fun c6 => ?_)
        · replace h := ipos c6 h
          refine lv_iconst (v := (-1)) X.1 X.2.1 (dk T_X11_judgesPlace 40 rfl) ic_m1 ?_
          exact w_X11_judgesPlace_j68 X x1 x2 x3 x5 x7 (σ 102 (3 + x2).toNatClampNeg) (-1) σ KR Y (lv_sub hl [2, 3, 4, 5, 6, 7, 1] rfl) h
        · replace h := ineg c6 h
          refine lv_iconst (v := 3) X.1 X.2.1 (dk T_X11_judgesPlace 38 rfl) ic_3 ?_
          refine lv_goto (tgt := 68) X.1 X.2.1 (dk T_X11_judgesPlace 39 rfl) rfl ?_
          exact w_X11_judgesPlace_j68 X x1 x2 x3 x5 x7 (σ 102 (3 + x2).toNatClampNeg) 3 σ KR Y (lv_sub hl [2, 3, 4, 5, 6, 7, 1] rfl) h
      · replace h := ineg c5 h
        refine lv_iconst (v := 2) X.1 X.2.1 (dk T_X11_judgesPlace 32 rfl) ic_2 ?_
        refine lv_goto (tgt := 68) X.1 X.2.1 (dk T_X11_judgesPlace 33 rfl) rfl ?_
        exact w_X11_judgesPlace_j68 X x1 x2 x3 x5 x7 (σ 102 (3 + x2).toNatClampNeg) 2 σ KR Y (lv_sub hl [2, 3, 4, 5, 6, 7, 1] rfl) h
    · replace h := ineg c4 h
      refine lv_iconst (v := 1) X.1 X.2.1 (dk T_X11_judgesPlace 25 rfl) ic_1 ?_
      refine lv_goto (tgt := 68) X.1 X.2.1 (dk T_X11_judgesPlace 26 rfl) rfl ?_
      exact w_X11_judgesPlace_j68 X x1 x2 x3 x5 x7 (σ 102 (3 + x2).toNatClampNeg) 1 σ KR Y (lv_sub hl [2, 3, 4, 5, 6, 7, 1] rfl) h
  · replace h := ineg c3 h
    refine lv_iconst (v := 0) X.1 X.2.1 (dk T_X11_judgesPlace 18 rfl) ic_0 ?_
    refine lv_goto (tgt := 68) X.1 X.2.1 (dk T_X11_judgesPlace 19 rfl) rfl ?_
    exact w_X11_judgesPlace_j68 X x1 x2 x3 x5 x7 (σ 102 (3 + x2).toNatClampNeg) 0 σ KR Y (lv_sub hl [2, 3, 4, 5, 6, 7, 1] rfl) h
def f_X11_judgesPlace (x1 : Int32) (x2 : Int32) (x3 : Int64) (x5 : Int64) (x7 : Int32) (σ : St) : Option (St) := f_X11_judgesPlace_0 x1 x2 x3 x5 x7 σ
set_option maxHeartbeats 4000000 in
set_option maxRecDepth 100000 in
theorem c_X11_judgesPlace {l : Launch} {g : Geo} (x1 : Int32) (x2 : Int32) (x3 : Int64) (x5 : Int64) (x7 : Int32) (σ : St) {w : St} (h : f_X11_judgesPlace x1 x2 x3 x5 x7 σ = some w) : CtV l yX11_judgesPlace cX11_judgesPlace 12 none (rmm 2 44) g [.ref (g.2.2 (101)), .int (x1), .int (x2), .long (x3), .long (x5), .int (x7)] σ w := enV (by decide) rfl (Nat.le_of_ble_eq_true rfl) (fun p e s m args below meth c Q X Y ls hl KR => w_X11_judgesPlace_0 X x1 x2 x3 x5 x7 σ KR Y hl h)
def I_X11_judges : List (Nat × Instr × Nat) := [(0, .aload_n 0, 1), (1, .iconst 0, 1), (2, .putfield 200, 3), (5, .aload_n 0, 1), (6, .iload_n 1, 1), (7, .iload_n 2, 1), (8, .iload 5, 2), (10, .invokevirtual 203, 3), (13, .ifCond .ne 21, 3), (16, .aload_n 0, 1), (17, .iconst 0, 1), (18, .iconst 1, 1), (19, .iload_n 1, 1), (20, .invokevirtual 206, 3), (23, .aload_n 0, 1), (24, .iconst 1, 1), (25, .iconst 2, 1), (26, .iload 5, 2), (28, .invokevirtual 206, 3), (31, .goto 150, 3), (34, .aload_n 0, 1), (35, .getfield 7, 3), (38, .sipush 653, 3), (41, .iload_n 1, 1), (42, .iadd, 1), (43, .iaload, 1), (44, .ifCond .ne 24, 3), (47, .aload_n 0, 1), (48, .iconst 0, 1), (49, .iconst 1, 1), (50, .iload_n 1, 1), (51, .invokevirtual 206, 3), (54, .aload_n 0, 1), (55, .iconst 1, 1), (56, .iconst 3, 1), (57, .aload_n 0, 1), (58, .iload_n 1, 1), (59, .invokevirtual 194, 3), (62, .invokevirtual 206, 3), (65, .goto 116, 3), (68, .aload_n 0, 1), (69, .getfield 7, 3), (72, .iconst 2, 1), (73, .iaload, 1), (74, .bipush 20, 2), (76, .if_icmp .ne 21, 3), (79, .aload_n 0, 1), (80, .iconst 0, 1), (81, .iconst 1, 1), (82, .iload_n 1, 1), (83, .invokevirtual 206, 3), (86, .aload_n 0, 1), (87, .iconst 1, 1), (88, .iconst 4, 1), (89, .bipush 20, 2), (91, .invokevirtual 206, 3), (94, .goto 87, 3), (97, .aload_n 0, 1), (98, .iload_n 1, 1), (99, .iload 5, 2), (101, .invokevirtual 136, 3), (104, .istore 6, 2), (106, .aload_n 0, 1), (107, .iload_n 1, 1), (108, .iload 5, 2), (110, .invokevirtual 126, 3), (113, .istore 7, 2), (115, .iconst 0, 1), (116, .istore 8, 2), (118, .iconst 0, 1), (119, .istore 9, 2), (121, .iload 9, 2), (123, .bipush 16, 2), (125, .if_icmp .ge 56, 3), (128, .aload_n 0, 1), (129, .getfield 200, 3), (132, .ifCond .ne 49, 3), (135, .iload 6, 2), (137, .iload 9, 2), (139, .invokestatic 105, 3), (142, .ifCond .eq 33, 3), (145, .aload_n 0, 1), (146, .iload_n 1, 1), (147, .iload_n 2, 1), (148, .iload_n 3, 1), (149, .i2l, 1), (150, .iload 9, 2), (152, .iload 7, 2), (154, .irem, 1), (155, .i2l, 1), (156, .ladd, 1), (157, .iload 4, 2), (159, .i2l, 1), (160, .iload 9, 2), (162, .iload 7, 2), (164, .idiv, 1), (165, .i2l, 1), (166, .ladd, 1), (167, .iload 8, 2), (169, .invokevirtual 210, 3), (172, .iinc 8 1, 3), (175, .iinc 9 1, 3), (178, .goto (-57), 3), (181, .return_, 1)]
set_option maxRecDepth 100000 in
theorem T_X11_judges : ∀ q ∈ I_X11_judges, decode cX11_judges q.1 = .ok (q.2.1, q.2.2) := by decide +kernel
def f_X11_judges_j175 (x1 : Int32) (x2 : Int32) (x3 : Int32) (x4 : Int32) (x6 : Int32) (x7 : Int32) (x8 : Int32) (x9 : Int32) (σ : St) : Option ((Int32 × Int32 × St) ⊕ (St)) :=
  some (.inl (x8, x9 + 1, σ))
set_option maxHeartbeats 4000000 in
set_option maxRecDepth 100000 in
theorem w_X11_judges_j175 (X : Cx g RX11 cX11_judges 10 none p s m args meth c) (x1 : Int32) (x2 : Int32) (x3 : Int32) (x4 : Int32) (x6 : Int32) (x7 : Int32) (x8 : Int32) (x9 : Int32) (σ : St) {w : (Int32 × Int32 × St) ⊕ (St)} (KB : ∀ (v0_ : Int32) (v1_ : Int32) (v2_ : St), w = .inl (v0_, v1_, v2_) → ∀ (H : Heap) (locs : List Loc) (ls : Array Slot), Wd g s v2_ H locs → lv_has ls 10 [(0, .ref (g.2.2 (101))), (1, .int (x1)), (2, .int (x2)), (3, .int (x3)), (4, .int (x4)), (6, .int (x6)), (7, .int (x7)), (8, .int (v0_)), (9, .int (v1_))] → W p l e (rmm 3 75) s m args below meth c H locs 0 0 Q (F0 m 121 ls [])) (KX0 : ∀ (v : St), w = .inr v → ∀ (H : Heap) (locs : List Loc) (ls : Array Slot), Wd g s v H locs → lv_has ls 10 [] → W p l e (rmm 3 75) s m args below meth c H locs 0 0 Q (F0 m 181 ls [])) {H : Heap} {locs : List Loc} {ls : Array Slot} (Y : Wd g s σ H locs) (hl : lv_has ls 10 [(0, .ref (g.2.2 (101))), (1, .int (x1)), (2, .int (x2)), (3, .int (x3)), (4, .int (x4)), (6, .int (x6)), (7, .int (x7)), (8, .int (x8)), (9, .int (x9))]) (h : f_X11_judges_j175 x1 x2 x3 x4 x6 x7 x8 x9 σ = some w) : W p l e (rmm 3 75) s m args below meth c H locs 0 0 Q (F0 m 175 ls []) := by
  unfold f_X11_judges_j175 at h
  refine lv_iinc (v := x9 + 1) (lv' := [(9, .int (x9 + 1)), (0, .ref (g.2.2 (101))), (1, .int (x1)), (2, .int (x2)), (3, .int (x3)), (4, .int (x4)), (6, .int (x6)), (7, .int (x7)), (8, .int (x8))]) X.1 X.2.1 (dk T_X11_judges 101 rfl) hl (k := 8) rfl (icx ic_1) (Nat.le_of_ble_eq_true rfl) rfl (fun ls hl => ?_)
  refine lv_goto (tgt := 121) X.1 X.2.1 (dk T_X11_judges 102 rfl) rfl ?_
  exact KB x8 (x9 + 1) σ (Option.some.inj h).symm _ _ _ Y (lv_sub hl [1, 2, 3, 4, 5, 6, 7, 8, 0] rfl)
def f_X11_judges_l121 (x1 : Int32) (x2 : Int32) (x3 : Int32) (x4 : Int32) (x6 : Int32) (x7 : Int32) (z : Int32 × Int32 × St) : Option ((Int32 × Int32 × St) ⊕ (St)) :=
  if 16 ≤ z.2.1 then some (.inr z.2.2) else if (z.2.2 101 20) = 0 then (f_X11_has x6 z.2.1).bind fun q11 => if q11 = 0 then f_X11_judges_j175 x1 x2 x3 x4 x6 x7 z.1 z.2.1 z.2.2 else chk (nz x7) (chk (nz x7) ((f_X11_judgesPlace x1 x2 (x3.toInt64 + ((z.2.1 - z.2.1 / x7 * x7).toInt64)) (x4.toInt64 + ((z.2.1 / x7).toInt64)) z.1 z.2.2).bind fun q15 => f_X11_judges_j175 x1 x2 x3 x4 x6 x7 (z.1 + 1) z.2.1 q15)) else some (.inr z.2.2)
set_option maxHeartbeats 4000000 in
set_option maxRecDepth 100000 in
theorem w_X11_judges_l121 (X : Cx g RX11 cX11_judges 10 none p s m args meth c) (x1 : Int32) (x2 : Int32) (x3 : Int32) (x4 : Int32) (x6 : Int32) (x7 : Int32) (σ : St) {r : St} (KX0 : ∀ (v : St), r = v → ∀ (H : Heap) (locs : List Loc) (ls : Array Slot), Wd g s v H locs → lv_has ls 10 [] → W p l e (rmm 3 75) s m args below meth c H locs 0 0 Q (F0 m 181 ls [])) : ∀ (n : Nat) (z : Int32 × Int32 × St) {H : Heap} {locs : List Loc} {ls : Array Slot}, Wd g s z.2.2 H locs → lv_has ls 10 [(0, .ref (g.2.2 (101))), (1, .int (x1)), (2, .int (x2)), (3, .int (x3)), (4, .int (x4)), (6, .int (x6)), (7, .int (x7)), (8, .int (z.1)), (9, .int (z.2.1))] → lp (f_X11_judges_l121 x1 x2 x3 x4 x6 x7) n z = some r → W p l e (rmm 3 75) s m args below meth c H locs 0 0 Q (F0 m 121 ls []) := by
  intro n
  induction n with
  | zero => intro z H locs ls Y hl h; cases h
  | succ n ih =>
    intro z H locs ls Y hl h
    obtain ⟨w, h, hw⟩ := lps h
    have KB : ∀ (v0_ : Int32) (v1_ : Int32) (v2_ : St), w = .inl (v0_, v1_, v2_) → ∀ (H : Heap) (locs : List Loc) (ls : Array Slot), Wd g s v2_ H locs → lv_has ls 10 [(0, .ref (g.2.2 (101))), (1, .int (x1)), (2, .int (x2)), (3, .int (x3)), (4, .int (x4)), (6, .int (x6)), (7, .int (x7)), (8, .int (v0_)), (9, .int (v1_))] → W p l e (rmm 3 75) s m args below meth c H locs 0 0 Q (F0 m 121 ls []) := fun v0_ v1_ v2_ e H locs ls Y hl => ih (v0_, v1_, v2_) Y hl (lpl hw e)
    have KX0 := fun (v : St) (e : w = .inr v) => KX0 v (lpr hw e)
    unfold f_X11_judges_l121 at h
    refine lv_iload X.1 X.2.1 (dk T_X11_judges 71 rfl) (lv_at hl 8 rfl) ?_
    refine lv_bipush (v := 16) X.1 X.2.1 (dk T_X11_judges 72 rfl) bp_16 ?_
    refine lv_icmp_ge (tgt := 181) X.1 X.2.1 (dk T_X11_judges 73 rfl) rfl (fun c9 => ?_) (fun c9 => ?_)
    · replace h := ipos c9 h
      exact KX0 z.2.2 (Option.some.inj h).symm _ _ _ Y (lv_sub hl [] rfl)
    · replace h := ineg c9 h
      refine lv_aload_n X.1 X.2.1 (dk T_X11_judges 74 rfl) rfl (lv_at hl 0 rfl) ?_
      refine gg X Y fl_X11_200 rfl rfl (dk T_X11_judges 75 rfl) ?_
      refine lv_if_ne (tgt := 181) X.1 X.2.1 (dk T_X11_judges 76 rfl) rfl (fun c10 => ?_) (fun c10 => ?_)
      · replace h := ineg c10 h
        exact KX0 z.2.2 (Option.some.inj h).symm _ _ _ Y (lv_sub hl [] rfl)
      · replace h := ipos c10 h
        refine lv_iload X.1 X.2.1 (dk T_X11_judges 77 rfl) (lv_at hl 5 rfl) ?_
        refine lv_iload X.1 X.2.1 (dk T_X11_judges 78 rfl) (lv_at hl 8 rfl) ?_
        obtain ⟨q11, hq11, h⟩ := bs h
        refine gsI (rest := []) X Y (c_X11_has x6 z.2.1 z.2.2 hq11) cb_X11_105 hl.1 rfl rfl (Nat.le_of_ble_eq_true rfl) ⟨Nat.le_of_ble_eq_true rfl, Nat.le_of_ble_eq_true rfl⟩ (dk T_X11_judges 79 rfl) (fun H locs Y => ?_)
        refine lv_if_eq (tgt := 175) X.1 X.2.1 (dk T_X11_judges 80 rfl) rfl (fun c12 => ?_) (fun c12 => ?_)
        · replace h := ipos c12 h
          exact w_X11_judges_j175 X x1 x2 x3 x4 x6 x7 z.1 z.2.1 z.2.2 KB KX0 Y (lv_sub hl [0, 1, 2, 3, 4, 5, 6, 7, 8] rfl) h
        · replace h := ineg c12 h
          refine lv_aload_n X.1 X.2.1 (dk T_X11_judges 81 rfl) rfl (lv_at hl 0 rfl) ?_
          refine lv_iload_n X.1 X.2.1 (dk T_X11_judges 82 rfl) rfl (lv_at hl 1 rfl) ?_
          refine lv_iload_n X.1 X.2.1 (dk T_X11_judges 83 rfl) rfl (lv_at hl 2 rfl) ?_
          refine lv_iload_n X.1 X.2.1 (dk T_X11_judges 84 rfl) rfl (lv_at hl 3 rfl) ?_
          refine lv_i2l X.1 X.2.1 (dk T_X11_judges 85 rfl) rfl ?_
          refine lv_iload X.1 X.2.1 (dk T_X11_judges 86 rfl) (lv_at hl 8 rfl) ?_
          refine lv_iload X.1 X.2.1 (dk T_X11_judges 87 rfl) (lv_at hl 6 rfl) ?_
          obtain ⟨g13, h⟩ := gd h
          refine lv_irem X.1 X.2.1 (dk T_X11_judges 88 rfl) (nzp g13) ?_
          refine lv_i2l X.1 X.2.1 (dk T_X11_judges 89 rfl) rfl ?_
          refine lv_ladd X.1 X.2.1 (dk T_X11_judges 90 rfl) ?_
          refine lv_iload X.1 X.2.1 (dk T_X11_judges 91 rfl) (lv_at hl 4 rfl) ?_
          refine lv_i2l X.1 X.2.1 (dk T_X11_judges 92 rfl) rfl ?_
          refine lv_iload X.1 X.2.1 (dk T_X11_judges 93 rfl) (lv_at hl 8 rfl) ?_
          refine lv_iload X.1 X.2.1 (dk T_X11_judges 94 rfl) (lv_at hl 6 rfl) ?_
          obtain ⟨g14, h⟩ := gd h
          refine lv_idiv X.1 X.2.1 (dk T_X11_judges 95 rfl) (nzp g14) ?_
          refine lv_i2l X.1 X.2.1 (dk T_X11_judges 96 rfl) rfl ?_
          refine lv_ladd X.1 X.2.1 (dk T_X11_judges 97 rfl) ?_
          refine lv_iload X.1 X.2.1 (dk T_X11_judges 98 rfl) (lv_at hl 7 rfl) ?_
          obtain ⟨q15, hq15, h⟩ := bs h
          refine gvV (rest := []) X Y (c_X11_judgesPlace x1 x2 (x3.toInt64 + ((z.2.1 - z.2.1 / x7 * x7).toInt64)) (x4.toInt64 + ((z.2.1 / x7).toInt64)) z.1 z.2.2 hq15) cb_X11_210 rfl hl.1 rfl rfl (Nat.le_of_ble_eq_true rfl) ⟨Nat.le_of_ble_eq_true rfl, Nat.le_of_ble_eq_true rfl⟩ (dk T_X11_judges 99 rfl) (fun H locs Y => ?_)
          refine lv_iinc (v := z.1 + 1) (lv' := [(8, .int (z.1 + 1)), (0, .ref (g.2.2 (101))), (1, .int (x1)), (2, .int (x2)), (3, .int (x3)), (4, .int (x4)), (6, .int (x6)), (7, .int (x7)), (9, .int (z.2.1))]) X.1 X.2.1 (dk T_X11_judges 100 rfl) hl (k := 7) rfl (icx ic_1) (Nat.le_of_ble_eq_true rfl) rfl (fun ls hl => ?_)
          exact w_X11_judges_j175 X x1 x2 x3 x4 x6 x7 (z.1 + 1) z.2.1 q15 KB KX0 Y (lv_sub hl [1, 2, 3, 4, 5, 6, 7, 0, 8] rfl) h
def f_X11_judges_0 (x1 : Int32) (x2 : Int32) (x3 : Int32) (x4 : Int32) (x5 : Int32) (σ : St) : Option (St) :=
  (f_X11_fitsGrain x1 x2 x5 (up σ 101 20 0)).bind fun q1 => if q1 = 0 then (f_X11_why 0 1 x1 (up σ 101 20 0)).bind fun q22 => (f_X11_why 1 2 x5 q22).bind fun q23 => some q23 else chk (inb (653 + x1) 761) (if ((up σ 101 20 0) 102 (653 + x1).toNatClampNeg) = 0 then (f_X11_why 0 1 x1 (up σ 101 20 0)).bind fun q19 => (f_X11_partsOf x1 q19).bind fun q20 => (f_X11_why 1 3 q20 q19).bind fun q21 => some q21 else chk (inb 2 761) (if ((up σ 101 20 0) 102 (2 : Int32).toNatClampNeg) = 20 then (f_X11_why 0 1 x1 (up σ 101 20 0)).bind fun q17 => (f_X11_why 1 4 20 q17).bind fun q18 => some q18 else (f_X11_turnedSet x1 x5 (up σ 101 20 0)).bind fun q7 => (f_X11_turnedColumns x1 x5 (up σ 101 20 0)).bind fun q8 => (lp (f_X11_judges_l121 x1 x2 x3 x4 q7 q8) FU (0, 0, up σ 101 20 0)).bind fun q16 => some q16))
set_option maxHeartbeats 4000000 in
set_option maxRecDepth 100000 in
theorem w_X11_judges_0 (X : Cx g RX11 cX11_judges 10 none p s m args meth c) (x1 : Int32) (x2 : Int32) (x3 : Int32) (x4 : Int32) (x5 : Int32) (σ : St) {w : St} (KR : ∀ (H : Heap) (locs : List Loc) (ls : Array Slot) (pc : Nat), Wd g s w H locs → decode cX11_judges pc = .ok (.return_, 1) → W p l e (rmm 3 75) s m args below meth c H locs 0 0 Q (F0 m pc ls [])) {H : Heap} {locs : List Loc} {ls : Array Slot} (Y : Wd g s σ H locs) (hl : lv_has ls 10 [(0, .ref (g.2.2 (101))), (1, .int (x1)), (2, .int (x2)), (3, .int (x3)), (4, .int (x4)), (5, .int (x5))]) (h : f_X11_judges_0 x1 x2 x3 x4 x5 σ = some w) : W p l e (rmm 3 75) s m args below meth c H locs 0 0 Q (F0 m 0 ls []) := by
  unfold f_X11_judges_0 at h
  refine lv_aload_n X.1 X.2.1 (dk T_X11_judges 0 rfl) rfl (lv_at hl 0 rfl) ?_
  refine lv_iconst (v := 0) X.1 X.2.1 (dk T_X11_judges 1 rfl) ic_0 ?_
  refine gp X Y fp_X11_200 rfl (nar_int _) (dk T_X11_judges 2 rfl) (fun H locs Y => ?_)
  refine lv_aload_n X.1 X.2.1 (dk T_X11_judges 3 rfl) rfl (lv_at hl 0 rfl) ?_
  refine lv_iload_n X.1 X.2.1 (dk T_X11_judges 4 rfl) rfl (lv_at hl 1 rfl) ?_
  refine lv_iload_n X.1 X.2.1 (dk T_X11_judges 5 rfl) rfl (lv_at hl 2 rfl) ?_
  refine lv_iload X.1 X.2.1 (dk T_X11_judges 6 rfl) (lv_at hl 5 rfl) ?_
  obtain ⟨q1, hq1, h⟩ := bs h
  refine gvI (rest := []) X Y (c_X11_fitsGrain x1 x2 x5 (up σ 101 20 0) hq1) cb_X11_203 rfl hl.1 rfl rfl (Nat.le_of_ble_eq_true rfl) ⟨Nat.le_of_ble_eq_true rfl, Nat.le_of_ble_eq_true rfl⟩ (dk T_X11_judges 7 rfl) (fun H locs Y => ?_)
  refine lv_if_ne (tgt := 34) X.1 X.2.1 (dk T_X11_judges 8 rfl) rfl (fun c2 => ?_) (fun c2 => ?_)
  · replace h := ineg c2 h
    refine lv_aload_n X.1 X.2.1 (dk T_X11_judges 20 rfl) rfl (lv_at hl 0 rfl) ?_
    refine gg X Y fl_X11_7 rfl rfl (dk T_X11_judges 21 rfl) ?_
    refine lv_sipush (v := 653) X.1 X.2.1 (dk T_X11_judges 22 rfl) sp_653 ?_
    refine lv_iload_n X.1 X.2.1 (dk T_X11_judges 23 rfl) rfl (lv_at hl 1 rfl) ?_
    refine lv_iadd X.1 X.2.1 (dk T_X11_judges 24 rfl) ?_
    obtain ⟨g3, h⟩ := gd h
    refine gil X Y rfl (inp g3) (dk T_X11_judges 25 rfl) ?_
    refine lv_if_ne (tgt := 68) X.1 X.2.1 (dk T_X11_judges 26 rfl) rfl (fun c4 => ?_) (fun c4 => ?_)
    · replace h := ineg c4 h
      refine lv_aload_n X.1 X.2.1 (dk T_X11_judges 40 rfl) rfl (lv_at hl 0 rfl) ?_
      refine gg X Y fl_X11_7 rfl rfl (dk T_X11_judges 41 rfl) ?_
      refine lv_iconst (v := 2) X.1 X.2.1 (dk T_X11_judges 42 rfl) ic_2 ?_
      obtain ⟨g5, h⟩ := gd h
      refine gil X Y rfl (inp g5) (dk T_X11_judges 43 rfl) ?_
      refine lv_bipush (v := 20) X.1 X.2.1 (dk T_X11_judges 44 rfl) bp_20 ?_
      refine lv_icmp_ne (tgt := 97) X.1 X.2.1 (dk T_X11_judges 45 rfl) rfl (fun c6 => ?_) (fun c6 => ?_)
      · replace h := ineg c6 h
        refine lv_aload_n X.1 X.2.1 (dk T_X11_judges 57 rfl) rfl (lv_at hl 0 rfl) ?_
        refine lv_iload_n X.1 X.2.1 (dk T_X11_judges 58 rfl) rfl (lv_at hl 1 rfl) ?_
        refine lv_iload X.1 X.2.1 (dk T_X11_judges 59 rfl) (lv_at hl 5 rfl) ?_
        obtain ⟨q7, hq7, h⟩ := bs h
        refine gvI (rest := []) X Y (c_X11_turnedSet x1 x5 (up σ 101 20 0) hq7) cb_X11_136 rfl hl.1 rfl rfl (Nat.le_of_ble_eq_true rfl) ⟨Nat.le_of_ble_eq_true rfl, Nat.le_of_ble_eq_true rfl⟩ (dk T_X11_judges 60 rfl) (fun H locs Y => ?_)
        refine lv_istore (lv' := [(6, .int (q7)), (0, .ref (g.2.2 (101))), (1, .int (x1)), (2, .int (x2)), (3, .int (x3)), (4, .int (x4)), (5, .int (x5))]) X.1 X.2.1 (dk T_X11_judges 61 rfl) hl (Nat.le_of_ble_eq_true rfl) rfl (fun ls hl => ?_)
        refine lv_aload_n X.1 X.2.1 (dk T_X11_judges 62 rfl) rfl (lv_at hl 1 rfl) ?_
        refine lv_iload_n X.1 X.2.1 (dk T_X11_judges 63 rfl) rfl (lv_at hl 2 rfl) ?_
        refine lv_iload X.1 X.2.1 (dk T_X11_judges 64 rfl) (lv_at hl 6 rfl) ?_
        obtain ⟨q8, hq8, h⟩ := bs h
        refine gvI (rest := []) X Y (c_X11_turnedColumns x1 x5 (up σ 101 20 0) hq8) cb_X11_126 rfl hl.1 rfl rfl (Nat.le_of_ble_eq_true rfl) ⟨Nat.le_of_ble_eq_true rfl, Nat.le_of_ble_eq_true rfl⟩ (dk T_X11_judges 65 rfl) (fun H locs Y => ?_)
        refine lv_istore (lv' := [(7, .int (q8)), (6, .int (q7)), (0, .ref (g.2.2 (101))), (1, .int (x1)), (2, .int (x2)), (3, .int (x3)), (4, .int (x4)), (5, .int (x5))]) X.1 X.2.1 (dk T_X11_judges 66 rfl) hl (Nat.le_of_ble_eq_true rfl) rfl (fun ls hl => ?_)
        refine lv_iconst (v := 0) X.1 X.2.1 (dk T_X11_judges 67 rfl) ic_0 ?_
        refine lv_istore (lv' := [(8, .int (0)), (7, .int (q8)), (6, .int (q7)), (0, .ref (g.2.2 (101))), (1, .int (x1)), (2, .int (x2)), (3, .int (x3)), (4, .int (x4)), (5, .int (x5))]) X.1 X.2.1 (dk T_X11_judges 68 rfl) hl (Nat.le_of_ble_eq_true rfl) rfl (fun ls hl => ?_)
        refine lv_iconst (v := 0) X.1 X.2.1 (dk T_X11_judges 69 rfl) ic_0 ?_
        refine lv_istore (lv' := [(9, .int (0)), (8, .int (0)), (7, .int (q8)), (6, .int (q7)), (0, .ref (g.2.2 (101))), (1, .int (x1)), (2, .int (x2)), (3, .int (x3)), (4, .int (x4)), (5, .int (x5))]) X.1 X.2.1 (dk T_X11_judges 70 rfl) hl (Nat.le_of_ble_eq_true rfl) rfl (fun ls hl => ?_)
        obtain ⟨q16, hq16, h⟩ := bs h
        refine w_X11_judges_l121 X x1 x2 x3 x4 q7 q8 σ (fun v e H locs ls Y hl => ?_) FU (0, 0, up σ 101 20 0) Y (lv_sub hl [4, 5, 6, 7, 8, 3, 2, 1, 0] rfl) hq16
        · obtain rfl := e
          obtain rfl := Option.some.inj h
          exact KR _ _ _ _ Y (dk T_X11_judges 103 rfl)
      · replace h := ipos c6 h
        refine lv_aload_n X.1 X.2.1 (dk T_X11_judges 46 rfl) rfl (lv_at hl 0 rfl) ?_
        refine lv_iconst (v := 0) X.1 X.2.1 (dk T_X11_judges 47 rfl) ic_0 ?_
        refine lv_iconst (v := 1) X.1 X.2.1 (dk T_X11_judges 48 rfl) ic_1 ?_
        refine lv_iload_n X.1 X.2.1 (dk T_X11_judges 49 rfl) rfl (lv_at hl 1 rfl) ?_
        obtain ⟨q17, hq17, h⟩ := bs h
        refine gvV (rest := []) X Y (c_X11_why 0 1 x1 (up σ 101 20 0) hq17) cb_X11_206 rfl hl.1 rfl rfl (Nat.le_of_ble_eq_true rfl) ⟨Nat.le_of_ble_eq_true rfl, Nat.le_of_ble_eq_true rfl⟩ (dk T_X11_judges 50 rfl) (fun H locs Y => ?_)
        refine lv_aload_n X.1 X.2.1 (dk T_X11_judges 51 rfl) rfl (lv_at hl 0 rfl) ?_
        refine lv_iconst (v := 1) X.1 X.2.1 (dk T_X11_judges 52 rfl) ic_1 ?_
        refine lv_iconst (v := 4) X.1 X.2.1 (dk T_X11_judges 53 rfl) ic_4 ?_
        refine lv_bipush (v := 20) X.1 X.2.1 (dk T_X11_judges 54 rfl) bp_20 ?_
        obtain ⟨q18, hq18, h⟩ := bs h
        refine gvV (rest := []) X Y (c_X11_why 1 4 20 q17 hq18) cb_X11_206 rfl hl.1 rfl rfl (Nat.le_of_ble_eq_true rfl) ⟨Nat.le_of_ble_eq_true rfl, Nat.le_of_ble_eq_true rfl⟩ (dk T_X11_judges 55 rfl) (fun H locs Y => ?_)
        refine lv_goto (tgt := 181) X.1 X.2.1 (dk T_X11_judges 56 rfl) rfl ?_
        obtain rfl := Option.some.inj h
        exact KR _ _ _ _ Y (dk T_X11_judges 103 rfl)
    · replace h := ipos c4 h
      refine lv_aload_n X.1 X.2.1 (dk T_X11_judges 27 rfl) rfl (lv_at hl 0 rfl) ?_
      refine lv_iconst (v := 0) X.1 X.2.1 (dk T_X11_judges 28 rfl) ic_0 ?_
      refine lv_iconst (v := 1) X.1 X.2.1 (dk T_X11_judges 29 rfl) ic_1 ?_
      refine lv_iload_n X.1 X.2.1 (dk T_X11_judges 30 rfl) rfl (lv_at hl 1 rfl) ?_
      obtain ⟨q19, hq19, h⟩ := bs h
      refine gvV (rest := []) X Y (c_X11_why 0 1 x1 (up σ 101 20 0) hq19) cb_X11_206 rfl hl.1 rfl rfl (Nat.le_of_ble_eq_true rfl) ⟨Nat.le_of_ble_eq_true rfl, Nat.le_of_ble_eq_true rfl⟩ (dk T_X11_judges 31 rfl) (fun H locs Y => ?_)
      refine lv_aload_n X.1 X.2.1 (dk T_X11_judges 32 rfl) rfl (lv_at hl 0 rfl) ?_
      refine lv_iconst (v := 1) X.1 X.2.1 (dk T_X11_judges 33 rfl) ic_1 ?_
      refine lv_iconst (v := 3) X.1 X.2.1 (dk T_X11_judges 34 rfl) ic_3 ?_
      refine lv_aload_n X.1 X.2.1 (dk T_X11_judges 35 rfl) rfl (lv_at hl 0 rfl) ?_
      refine lv_iload_n X.1 X.2.1 (dk T_X11_judges 36 rfl) rfl (lv_at hl 1 rfl) ?_
      obtain ⟨q20, hq20, h⟩ := bs h
      refine gvI (rest := [.int (3), .int (1), .ref (g.2.2 (101))]) X Y (c_X11_partsOf x1 q19 hq20) cb_X11_194 rfl hl.1 rfl rfl (Nat.le_of_ble_eq_true rfl) ⟨Nat.le_of_ble_eq_true rfl, Nat.le_of_ble_eq_true rfl⟩ (dk T_X11_judges 37 rfl) (fun H locs Y => ?_)
      obtain ⟨q21, hq21, h⟩ := bs h
      refine gvV (rest := []) X Y (c_X11_why 1 3 q20 q19 hq21) cb_X11_206 rfl hl.1 rfl rfl (Nat.le_of_ble_eq_true rfl) ⟨Nat.le_of_ble_eq_true rfl, Nat.le_of_ble_eq_true rfl⟩ (dk T_X11_judges 38 rfl) (fun H locs Y => ?_)
      refine lv_goto (tgt := 181) X.1 X.2.1 (dk T_X11_judges 39 rfl) rfl ?_
      obtain rfl := Option.some.inj h
      exact KR _ _ _ _ Y (dk T_X11_judges 103 rfl)
  · replace h := ipos c2 h
    refine lv_aload_n X.1 X.2.1 (dk T_X11_judges 9 rfl) rfl (lv_at hl 0 rfl) ?_
    refine lv_iconst (v := 0) X.1 X.2.1 (dk T_X11_judges 10 rfl) ic_0 ?_
    refine lv_iconst (v := 1) X.1 X.2.1 (dk T_X11_judges 11 rfl) ic_1 ?_
    refine lv_iload_n X.1 X.2.1 (dk T_X11_judges 12 rfl) rfl (lv_at hl 1 rfl) ?_
    obtain ⟨q22, hq22, h⟩ := bs h
    refine gvV (rest := []) X Y (c_X11_why 0 1 x1 (up σ 101 20 0) hq22) cb_X11_206 rfl hl.1 rfl rfl (Nat.le_of_ble_eq_true rfl) ⟨Nat.le_of_ble_eq_true rfl, Nat.le_of_ble_eq_true rfl⟩ (dk T_X11_judges 13 rfl) (fun H locs Y => ?_)
    refine lv_aload_n X.1 X.2.1 (dk T_X11_judges 14 rfl) rfl (lv_at hl 0 rfl) ?_
    refine lv_iconst (v := 1) X.1 X.2.1 (dk T_X11_judges 15 rfl) ic_1 ?_
    refine lv_iconst (v := 2) X.1 X.2.1 (dk T_X11_judges 16 rfl) ic_2 ?_
    refine lv_iload X.1 X.2.1 (dk T_X11_judges 17 rfl) (lv_at hl 5 rfl) ?_
    obtain ⟨q23, hq23, h⟩ := bs h
    refine gvV (rest := []) X Y (c_X11_why 1 2 x5 q22 hq23) cb_X11_206 rfl hl.1 rfl rfl (Nat.le_of_ble_eq_true rfl) ⟨Nat.le_of_ble_eq_true rfl, Nat.le_of_ble_eq_true rfl⟩ (dk T_X11_judges 18 rfl) (fun H locs Y => ?_)
    refine lv_goto (tgt := 181) X.1 X.2.1 (dk T_X11_judges 19 rfl) rfl ?_
    obtain rfl := Option.some.inj h
    exact KR _ _ _ _ Y (dk T_X11_judges 103 rfl)
def f_X11_judges (x1 : Int32) (x2 : Int32) (x3 : Int32) (x4 : Int32) (x5 : Int32) (σ : St) : Option (St) := f_X11_judges_0 x1 x2 x3 x4 x5 σ
set_option maxHeartbeats 4000000 in
set_option maxRecDepth 100000 in
theorem c_X11_judges {l : Launch} {g : Geo} (x1 : Int32) (x2 : Int32) (x3 : Int32) (x4 : Int32) (x5 : Int32) (σ : St) {w : St} (h : f_X11_judges x1 x2 x3 x4 x5 σ = some w) : CtV l yX11_judges cX11_judges 10 none (rmm 3 75) g [.ref (g.2.2 (101)), .int (x1), .int (x2), .int (x3), .int (x4), .int (x5)] σ w := enV (by decide) rfl (Nat.le_of_ble_eq_true rfl) (fun p e s m args below meth c Q X Y ls hl KR => w_X11_judges_0 X x1 x2 x3 x4 x5 σ KR Y hl h)
def I_X11_places : List (Nat × Instr × Nat) := [(0, .aload_n 0, 1), (1, .getfield 7, 3), (4, .iconst 2, 1), (5, .iaload, 1), (6, .istore 6, 2), (8, .aload_n 0, 1), (9, .getfield 7, 3), (12, .iconst 2, 1), (13, .dup2, 1), (14, .iaload, 1), (15, .iconst 1, 1), (16, .iadd, 1), (17, .iastore, 1), (18, .aload_n 0, 1), (19, .getfield 7, 3), (22, .sipush 661, 3), (25, .iload 6, 2), (27, .iadd, 1), (28, .iload_n 1, 1), (29, .iastore, 1), (30, .aload_n 0, 1), (31, .getfield 7, 3), (34, .sipush 681, 3), (37, .iload 6, 2), (39, .iadd, 1), (40, .iload_n 2, 1), (41, .iastore, 1), (42, .aload_n 0, 1), (43, .getfield 7, 3), (46, .sipush 701, 3), (49, .iload 6, 2), (51, .iadd, 1), (52, .iload_n 3, 1), (53, .iastore, 1), (54, .aload_n 0, 1), (55, .getfield 7, 3), (58, .sipush 721, 3), (61, .iload 6, 2), (63, .iadd, 1), (64, .iload 4, 2), (66, .iastore, 1), (67, .aload_n 0, 1), (68, .getfield 7, 3), (71, .sipush 741, 3), (74, .iload 6, 2), (76, .iadd, 1), (77, .iload 5, 2), (79, .iastore, 1), (80, .aload_n 0, 1), (81, .getfield 7, 3), (84, .sipush 653, 3), (87, .iload_n 1, 1), (88, .iadd, 1), (89, .dup2, 1), (90, .iaload, 1), (91, .iconst 1, 1), (92, .isub, 1), (93, .iastore, 1), (94, .iload 6, 2), (96, .ireturn, 1)]
set_option maxRecDepth 100000 in
theorem T_X11_places : ∀ q ∈ I_X11_places, decode cX11_places q.1 = .ok (q.2.1, q.2.2) := by decide +kernel
def f_X11_places_0 (x1 : Int32) (x2 : Int32) (x3 : Int32) (x4 : Int32) (x5 : Int32) (σ : St) : Option (Int32 × St) :=
  chk (inb 2 761) (chk (inb 2 761) (chk (inb 2 761) (chk (inb (661 + (σ 102 (2 : Int32).toNatClampNeg)) 761) (chk (inb (681 + (σ 102 (2 : Int32).toNatClampNeg)) 761) (chk (inb (701 + (σ 102 (2 : Int32).toNatClampNeg)) 761) (chk (inb (721 + (σ 102 (2 : Int32).toNatClampNeg)) 761) (chk (inb (741 + (σ 102 (2 : Int32).toNatClampNeg)) 761) (chk (inb (653 + x1) 761) (chk (inb (653 + x1) 761) (some (σ 102 (2 : Int32).toNatClampNeg, up (up (up (up (up (up (up σ 102 (2 : Int32).toNatClampNeg ((σ 102 (2 : Int32).toNatClampNeg) + 1)) 102 (661 + (σ 102 (2 : Int32).toNatClampNeg)).toNatClampNeg x1) 102 (681 + (σ 102 (2 : Int32).toNatClampNeg)).toNatClampNeg x2) 102 (701 + (σ 102 (2 : Int32).toNatClampNeg)).toNatClampNeg x3) 102 (721 + (σ 102 (2 : Int32).toNatClampNeg)).toNatClampNeg x4) 102 (741 + (σ 102 (2 : Int32).toNatClampNeg)).toNatClampNeg x5) 102 (653 + x1).toNatClampNeg (((up (up (up (up (up (up σ 102 (2 : Int32).toNatClampNeg ((σ 102 (2 : Int32).toNatClampNeg) + 1)) 102 (661 + (σ 102 (2 : Int32).toNatClampNeg)).toNatClampNeg x1) 102 (681 + (σ 102 (2 : Int32).toNatClampNeg)).toNatClampNeg x2) 102 (701 + (σ 102 (2 : Int32).toNatClampNeg)).toNatClampNeg x3) 102 (721 + (σ 102 (2 : Int32).toNatClampNeg)).toNatClampNeg x4) 102 (741 + (σ 102 (2 : Int32).toNatClampNeg)).toNatClampNeg x5) 102 (653 + x1).toNatClampNeg) - 1))))))))))))
set_option maxHeartbeats 4000000 in
set_option maxRecDepth 100000 in
theorem w_X11_places_0 (X : Cx g RX11 cX11_places 7 (some .int) p s m args meth c) (x1 : Int32) (x2 : Int32) (x3 : Int32) (x4 : Int32) (x5 : Int32) (σ : St) {w : Int32 × St} (KR : ∀ (H : Heap) (locs : List Loc) (ls : Array Slot) (pc : Nat), Wd g s w.2 H locs → decode cX11_places pc = .ok (.ireturn, 1) → W p l e (rmm 0 0) s m args below meth c H locs 0 0 Q (F0 m pc ls [.int (w.1)])) {H : Heap} {locs : List Loc} {ls : Array Slot} (Y : Wd g s σ H locs) (hl : lv_has ls 7 [(0, .ref (g.2.2 (101))), (1, .int (x1)), (2, .int (x2)), (3, .int (x3)), (4, .int (x4)), (5, .int (x5))]) (h : f_X11_places_0 x1 x2 x3 x4 x5 σ = some w) : W p l e (rmm 0 0) s m args below meth c H locs 0 0 Q (F0 m 0 ls []) := by
  unfold f_X11_places_0 at h
  refine lv_aload_n X.1 X.2.1 (dk T_X11_places 0 rfl) rfl (lv_at hl 0 rfl) ?_
  refine gg X Y fl_X11_7 rfl rfl (dk T_X11_places 1 rfl) ?_
  refine lv_iconst (v := 2) X.1 X.2.1 (dk T_X11_places 2 rfl) ic_2 ?_
  obtain ⟨g1, h⟩ := gd h
  refine gil X Y rfl (inp g1) (dk T_X11_places 3 rfl) ?_
  refine lv_istore (lv' := [(6, .int (σ 102 (2 : Int32).toNatClampNeg)), (0, .ref (g.2.2 (101))), (1, .int (x1)), (2, .int (x2)), (3, .int (x3)), (4, .int (x4)), (5, .int (x5))]) X.1 X.2.1 (dk T_X11_places 4 rfl) hl (Nat.le_of_ble_eq_true rfl) rfl (fun ls hl => ?_)
  refine lv_aload_n X.1 X.2.1 (dk T_X11_places 5 rfl) rfl (lv_at hl 1 rfl) ?_
  refine gg X Y fl_X11_7 rfl rfl (dk T_X11_places 6 rfl) ?_
  refine lv_iconst (v := 2) X.1 X.2.1 (dk T_X11_places 7 rfl) ic_2 ?_
  refine lv_dup2_11 X.1 X.2.1 (dk T_X11_places 8 rfl) rfl rfl ?_
  obtain ⟨g2, h⟩ := gd h
  refine gil X Y rfl (inp g2) (dk T_X11_places 9 rfl) ?_
  refine lv_iconst (v := 1) X.1 X.2.1 (dk T_X11_places 10 rfl) ic_1 ?_
  refine lv_iadd X.1 X.2.1 (dk T_X11_places 11 rfl) ?_
  obtain ⟨g3, h⟩ := gd h
  refine gis X Y rfl (inp g3) (dk T_X11_places 12 rfl) (fun H locs Y => ?_)
  refine lv_aload_n X.1 X.2.1 (dk T_X11_places 13 rfl) rfl (lv_at hl 1 rfl) ?_
  refine gg X Y fl_X11_7 rfl rfl (dk T_X11_places 14 rfl) ?_
  refine lv_sipush (v := 661) X.1 X.2.1 (dk T_X11_places 15 rfl) sp_661 ?_
  refine lv_iload X.1 X.2.1 (dk T_X11_places 16 rfl) (lv_at hl 0 rfl) ?_
  refine lv_iadd X.1 X.2.1 (dk T_X11_places 17 rfl) ?_
  refine lv_iload_n X.1 X.2.1 (dk T_X11_places 18 rfl) rfl (lv_at hl 2 rfl) ?_
  obtain ⟨g4, h⟩ := gd h
  refine gis X Y rfl (inp g4) (dk T_X11_places 19 rfl) (fun H locs Y => ?_)
  refine lv_aload_n X.1 X.2.1 (dk T_X11_places 20 rfl) rfl (lv_at hl 1 rfl) ?_
  refine gg X Y fl_X11_7 rfl rfl (dk T_X11_places 21 rfl) ?_
  refine lv_sipush (v := 681) X.1 X.2.1 (dk T_X11_places 22 rfl) sp_681 ?_
  refine lv_iload X.1 X.2.1 (dk T_X11_places 23 rfl) (lv_at hl 0 rfl) ?_
  refine lv_iadd X.1 X.2.1 (dk T_X11_places 24 rfl) ?_
  refine lv_iload_n X.1 X.2.1 (dk T_X11_places 25 rfl) rfl (lv_at hl 3 rfl) ?_
  obtain ⟨g5, h⟩ := gd h
  refine gis X Y rfl (inp g5) (dk T_X11_places 26 rfl) (fun H locs Y => ?_)
  refine lv_aload_n X.1 X.2.1 (dk T_X11_places 27 rfl) rfl (lv_at hl 1 rfl) ?_
  refine gg X Y fl_X11_7 rfl rfl (dk T_X11_places 28 rfl) ?_
  refine lv_sipush (v := 701) X.1 X.2.1 (dk T_X11_places 29 rfl) sp_701 ?_
  refine lv_iload X.1 X.2.1 (dk T_X11_places 30 rfl) (lv_at hl 0 rfl) ?_
  refine lv_iadd X.1 X.2.1 (dk T_X11_places 31 rfl) ?_
  refine lv_iload_n X.1 X.2.1 (dk T_X11_places 32 rfl) rfl (lv_at hl 4 rfl) ?_
  obtain ⟨g6, h⟩ := gd h
  refine gis X Y rfl (inp g6) (dk T_X11_places 33 rfl) (fun H locs Y => ?_)
  refine lv_aload_n X.1 X.2.1 (dk T_X11_places 34 rfl) rfl (lv_at hl 1 rfl) ?_
  refine gg X Y fl_X11_7 rfl rfl (dk T_X11_places 35 rfl) ?_
  refine lv_sipush (v := 721) X.1 X.2.1 (dk T_X11_places 36 rfl) sp_721 ?_
  refine lv_iload X.1 X.2.1 (dk T_X11_places 37 rfl) (lv_at hl 0 rfl) ?_
  refine lv_iadd X.1 X.2.1 (dk T_X11_places 38 rfl) ?_
  refine lv_iload X.1 X.2.1 (dk T_X11_places 39 rfl) (lv_at hl 5 rfl) ?_
  obtain ⟨g7, h⟩ := gd h
  refine gis X Y rfl (inp g7) (dk T_X11_places 40 rfl) (fun H locs Y => ?_)
  refine lv_aload_n X.1 X.2.1 (dk T_X11_places 41 rfl) rfl (lv_at hl 1 rfl) ?_
  refine gg X Y fl_X11_7 rfl rfl (dk T_X11_places 42 rfl) ?_
  refine lv_sipush (v := 741) X.1 X.2.1 (dk T_X11_places 43 rfl) sp_741 ?_
  refine lv_iload X.1 X.2.1 (dk T_X11_places 44 rfl) (lv_at hl 0 rfl) ?_
  refine lv_iadd X.1 X.2.1 (dk T_X11_places 45 rfl) ?_
  refine lv_iload X.1 X.2.1 (dk T_X11_places 46 rfl) (lv_at hl 6 rfl) ?_
  obtain ⟨g8, h⟩ := gd h
  refine gis X Y rfl (inp g8) (dk T_X11_places 47 rfl) (fun H locs Y => ?_)
  refine lv_aload_n X.1 X.2.1 (dk T_X11_places 48 rfl) rfl (lv_at hl 1 rfl) ?_
  refine gg X Y fl_X11_7 rfl rfl (dk T_X11_places 49 rfl) ?_
  refine lv_sipush (v := 653) X.1 X.2.1 (dk T_X11_places 50 rfl) sp_653 ?_
  refine lv_iload_n X.1 X.2.1 (dk T_X11_places 51 rfl) rfl (lv_at hl 2 rfl) ?_
  refine lv_iadd X.1 X.2.1 (dk T_X11_places 52 rfl) ?_
  refine lv_dup2_11 X.1 X.2.1 (dk T_X11_places 53 rfl) rfl rfl ?_
  obtain ⟨g9, h⟩ := gd h
  refine gil X Y rfl (inp g9) (dk T_X11_places 54 rfl) ?_
  refine lv_iconst (v := 1) X.1 X.2.1 (dk T_X11_places 55 rfl) ic_1 ?_
  refine lv_isub X.1 X.2.1 (dk T_X11_places 56 rfl) ?_
  obtain ⟨g10, h⟩ := gd h
  refine gis X Y rfl (inp g10) (dk T_X11_places 57 rfl) (fun H locs Y => ?_)
  refine lv_iload X.1 X.2.1 (dk T_X11_places 58 rfl) (lv_at hl 0 rfl) ?_
  obtain rfl := Option.some.inj h
  exact KR _ _ _ _ Y (dk T_X11_places 59 rfl)
def f_X11_places (x1 : Int32) (x2 : Int32) (x3 : Int32) (x4 : Int32) (x5 : Int32) (σ : St) : Option (Int32 × St) := f_X11_places_0 x1 x2 x3 x4 x5 σ
set_option maxHeartbeats 4000000 in
set_option maxRecDepth 100000 in
theorem c_X11_places {l : Launch} {g : Geo} (x1 : Int32) (x2 : Int32) (x3 : Int32) (x4 : Int32) (x5 : Int32) (σ : St) {w : Int32 × St} (h : f_X11_places x1 x2 x3 x4 x5 σ = some w) : CtI l yX11_places cX11_places 7 (some .int) (rmm 0 0) g [.ref (g.2.2 (101)), .int (x1), .int (x2), .int (x3), .int (x4), .int (x5)] σ w.1 w.2 := enI .int (by decide) rfl rfl (Nat.le_of_ble_eq_true rfl) (fun p e s m args below meth c Q X Y ls hl KR => w_X11_places_0 X x1 x2 x3 x4 x5 σ KR Y hl h)
def I_X11_place : List (Nat × Instr × Nat) := [(0, .aload_n 0, 1), (1, .iconst 0, 1), (2, .putfield 71, 3), (5, .aload_n 0, 1), (6, .iload_n 1, 1), (7, .invokevirtual 188, 3), (10, .ifCond .eq 11, 3), (13, .aload_n 0, 1), (14, .iload_n 2, 1), (15, .invokevirtual 155, 3), (18, .ifCond .ne 9, 3), (21, .aload_n 0, 1), (22, .iconst 1, 1), (23, .invokevirtual 91, 3), (26, .ireturn, 1), (27, .iload 5, 2), (29, .iconst 0, 1), (30, .iconst 3, 1), (31, .invokestatic 75, 3), (34, .ifCond .ne 9, 3), (37, .aload_n 0, 1), (38, .iconst 2, 1), (39, .invokevirtual 91, 3), (42, .ireturn, 1), (43, .aload_n 0, 1), (44, .iload_n 2, 1), (45, .invokevirtual 145, 3), (48, .aload_n 0, 1), (49, .iload_n 1, 1), (50, .iload_n 2, 1), (51, .iload_n 3, 1), (52, .iload 4, 2), (54, .iload 5, 2), (56, .invokevirtual 214, 3), (59, .aload_n 0, 1), (60, .getfield 200, 3), (63, .ifCond .le 63, 3), (66, .aload_n 0, 1), (67, .aload_n 0, 1), (68, .getfield 200, 3), (71, .putfield 218, 3), (74, .iconst 0, 1), (75, .istore 6, 2), (77, .iload 6, 2), (79, .aload_n 0, 1), (80, .getfield 200, 3), (83, .if_icmp .ge 37, 3), (86, .aload_n 0, 1), (87, .getfield 25, 3), (90, .iload 6, 2), (92, .aload_n 0, 1), (93, .getfield 43, 3), (96, .iload 6, 2), (98, .iaload, 1), (99, .iastore, 1), (100, .aload_n 0, 1), (101, .getfield 28, 3), (104, .iload 6, 2), (106, .aload_n 0, 1), (107, .getfield 46, 3), (110, .iload 6, 2), (112, .iaload, 1), (113, .iastore, 1), (114, .iinc 6 1, 3), (117, .goto (-40), 3), (120, .aload_n 0, 1), (121, .iconst 3, 1), (122, .invokevirtual 91, 3), (125, .ireturn, 1), (126, .aload_n 0, 1), (127, .invokevirtual 95, 3), (130, .aload_n 0, 1), (131, .iload_n 1, 1), (132, .iload_n 2, 1), (133, .iload_n 3, 1), (134, .iload 4, 2), (136, .iload 5, 2), (138, .invokevirtual 221, 3), (141, .ireturn, 1)]
set_option maxRecDepth 100000 in
theorem T_X11_place : ∀ q ∈ I_X11_place, decode cX11_place q.1 = .ok (q.2.1, q.2.2) := by decide +kernel
def f_X11_place_j21 (σ : St) : Option (Int32 × St) :=
  (f_X11_fails 1 σ).bind fun q3 => some (q3.1, q3.2)
set_option maxHeartbeats 4000000 in
set_option maxRecDepth 100000 in
theorem w_X11_place_j21 (X : Cx g RX11 cX11_place 7 (some .int) p s m args meth c) (σ : St) {w : Int32 × St} (KR : ∀ (H : Heap) (locs : List Loc) (ls : Array Slot) (pc : Nat), Wd g s w.2 H locs → decode cX11_place pc = .ok (.ireturn, 1) → W p l e (rmm 4 104) s m args below meth c H locs 0 0 Q (F0 m pc ls [.int (w.1)])) {H : Heap} {locs : List Loc} {ls : Array Slot} (Y : Wd g s σ H locs) (hl : lv_has ls 7 [(0, .ref (g.2.2 (101)))]) (h : f_X11_place_j21 σ = some w) : W p l e (rmm 4 104) s m args below meth c H locs 0 0 Q (F0 m 21 ls []) := by
  unfold f_X11_place_j21 at h
  refine lv_aload_n X.1 X.2.1 (dk T_X11_place 11 rfl) rfl (lv_at hl 0 rfl) ?_
  refine lv_iconst (v := 1) X.1 X.2.1 (dk T_X11_place 12 rfl) ic_1 ?_
  obtain ⟨q3, hq3, h⟩ := bs h
  refine gvI (rest := []) X Y (c_X11_fails 1 σ hq3) cb_X11_91 rfl hl.1 rfl rfl (Nat.le_of_ble_eq_true rfl) ⟨Nat.le_of_ble_eq_true rfl, Nat.le_of_ble_eq_true rfl⟩ (dk T_X11_place 13 rfl) (fun H locs Y => ?_)
  obtain rfl := Option.some.inj h
  exact KR _ _ _ _ Y (dk T_X11_place 14 rfl)
def f_X11_place_l77 (z : Int32 × St) : Option ((Int32 × St) ⊕ (St)) :=
  if (z.2 101 20) ≤ z.1 then some (.inr z.2) else chk (inb z.1 3) (chk (inb z.1 3) (chk (inb z.1 3) (chk (inb z.1 3) (some (.inl (z.1 + 1, up (up z.2 107 z.1.toNatClampNeg (z.2 113 z.1.toNatClampNeg)) 108 z.1.toNatClampNeg ((up z.2 107 z.1.toNatClampNeg (z.2 113 z.1.toNatClampNeg)) 114 z.1.toNatClampNeg)))))))
set_option maxHeartbeats 4000000 in
set_option maxRecDepth 100000 in
theorem w_X11_place_l77 (X : Cx g RX11 cX11_place 7 (some .int) p s m args meth c) (σ : St) {r : St} (KX0 : ∀ (v : St), r = v → ∀ (H : Heap) (locs : List Loc) (ls : Array Slot), Wd g s v H locs → lv_has ls 7 [(0, .ref (g.2.2 (101)))] → W p l e (rmm 4 104) s m args below meth c H locs 0 0 Q (F0 m 120 ls [])) : ∀ (n : Nat) (z : Int32 × St) {H : Heap} {locs : List Loc} {ls : Array Slot}, Wd g s z.2 H locs → lv_has ls 7 [(0, .ref (g.2.2 (101))), (6, .int (z.1))] → lp (f_X11_place_l77) n z = some r → W p l e (rmm 4 104) s m args below meth c H locs 0 0 Q (F0 m 77 ls []) := by
  intro n
  induction n with
  | zero => intro z H locs ls Y hl h; cases h
  | succ n ih =>
    intro z H locs ls Y hl h
    obtain ⟨w, h, hw⟩ := lps h
    have KB : ∀ (v0_ : Int32) (v1_ : St), w = .inl (v0_, v1_) → ∀ (H : Heap) (locs : List Loc) (ls : Array Slot), Wd g s v1_ H locs → lv_has ls 7 [(0, .ref (g.2.2 (101))), (6, .int (v0_))] → W p l e (rmm 4 104) s m args below meth c H locs 0 0 Q (F0 m 77 ls []) := fun v0_ v1_ e H locs ls Y hl => ih (v0_, v1_) Y hl (lpl hw e)
    have KX0 := fun (v : St) (e : w = .inr v) => KX0 v (lpr hw e)
    unfold f_X11_place_l77 at h
    refine lv_iload X.1 X.2.1 (dk T_X11_place 43 rfl) (lv_at hl 1 rfl) ?_
    refine lv_aload_n X.1 X.2.1 (dk T_X11_place 44 rfl) rfl (lv_at hl 0 rfl) ?_
    refine gg X Y fl_X11_200 rfl rfl (dk T_X11_place 45 rfl) ?_
    refine lv_icmp_ge (tgt := 120) X.1 X.2.1 (dk T_X11_place 46 rfl) rfl (fun c13 => ?_) (fun c13 => ?_)
    · replace h := ipos c13 h
      exact KX0 z.2 (Option.some.inj h).symm _ _ _ Y (lv_sub hl [0] rfl)
    · replace h := ineg c13 h
      refine lv_aload_n X.1 X.2.1 (dk T_X11_place 47 rfl) rfl (lv_at hl 0 rfl) ?_
      refine gg X Y fl_X11_25 rfl rfl (dk T_X11_place 48 rfl) ?_
      refine lv_iload X.1 X.2.1 (dk T_X11_place 49 rfl) (lv_at hl 1 rfl) ?_
      refine lv_aload_n X.1 X.2.1 (dk T_X11_place 50 rfl) rfl (lv_at hl 0 rfl) ?_
      refine gg X Y fl_X11_43 rfl rfl (dk T_X11_place 51 rfl) ?_
      refine lv_iload X.1 X.2.1 (dk T_X11_place 52 rfl) (lv_at hl 1 rfl) ?_
      obtain ⟨g14, h⟩ := gd h
      refine gil X Y rfl (inp g14) (dk T_X11_place 53 rfl) ?_
      obtain ⟨g15, h⟩ := gd h
      refine gis X Y rfl (inp g15) (dk T_X11_place 54 rfl) (fun H locs Y => ?_)
      refine lv_aload_n X.1 X.2.1 (dk T_X11_place 55 rfl) rfl (lv_at hl 0 rfl) ?_
      refine gg X Y fl_X11_28 rfl rfl (dk T_X11_place 56 rfl) ?_
      refine lv_iload X.1 X.2.1 (dk T_X11_place 57 rfl) (lv_at hl 1 rfl) ?_
      refine lv_aload_n X.1 X.2.1 (dk T_X11_place 58 rfl) rfl (lv_at hl 0 rfl) ?_
      refine gg X Y fl_X11_46 rfl rfl (dk T_X11_place 59 rfl) ?_
      refine lv_iload X.1 X.2.1 (dk T_X11_place 60 rfl) (lv_at hl 1 rfl) ?_
      obtain ⟨g16, h⟩ := gd h
      refine gil X Y rfl (inp g16) (dk T_X11_place 61 rfl) ?_
      obtain ⟨g17, h⟩ := gd h
      refine gis X Y rfl (inp g17) (dk T_X11_place 62 rfl) (fun H locs Y => ?_)
      refine lv_iinc (v := z.1 + 1) (lv' := [(6, .int (z.1 + 1)), (0, .ref (g.2.2 (101)))]) X.1 X.2.1 (dk T_X11_place 63 rfl) hl (k := 1) rfl (icx ic_1) (Nat.le_of_ble_eq_true rfl) rfl (fun ls hl => ?_)
      refine lv_goto (tgt := 77) X.1 X.2.1 (dk T_X11_place 64 rfl) rfl ?_
      exact KB (z.1 + 1) (up (up z.2 107 z.1.toNatClampNeg (z.2 113 z.1.toNatClampNeg)) 108 z.1.toNatClampNeg ((up z.2 107 z.1.toNatClampNeg (z.2 113 z.1.toNatClampNeg)) 114 z.1.toNatClampNeg)) (Option.some.inj h).symm _ _ _ Y (lv_sub hl [1, 0] rfl)
def f_X11_place_0 (x1 : Int32) (x2 : Int32) (x3 : Int32) (x4 : Int32) (x5 : Int32) (σ : St) : Option (Int32 × St) :=
  (f_X11_isShape x1 (up σ 101 0 0)).bind fun q1 => if q1 = 0 then f_X11_place_j21 (up σ 101 0 0) else (f_X11_isSheet x2 (up σ 101 0 0)).bind fun q4 => if q4 = 0 then f_X11_place_j21 (up σ 101 0 0) else (f_X11_in x5 0 3).bind fun q6 => if q6 = 0 then (f_X11_fails 2 (up σ 101 0 0)).bind fun q20 => some (q20.1, q20.2) else (f_X11_looks x2 (up σ 101 0 0)).bind fun q8 => (f_X11_judges x1 x2 x3 x4 x5 q8).bind fun q9 => if (q9 101 20) ≤ 0 then (f_X11_changes q9).bind fun q11 => (f_X11_places x1 x2 x3 x4 x5 q11).bind fun q12 => some (q12.1, q12.2) else (lp (f_X11_place_l77) FU (0, up q9 101 13 (q9 101 20))).bind fun q18 => (f_X11_fails 3 q18).bind fun q19 => some (q19.1, q19.2)
set_option maxHeartbeats 4000000 in
set_option maxRecDepth 100000 in
theorem w_X11_place_0 (X : Cx g RX11 cX11_place 7 (some .int) p s m args meth c) (x1 : Int32) (x2 : Int32) (x3 : Int32) (x4 : Int32) (x5 : Int32) (σ : St) {w : Int32 × St} (KR : ∀ (H : Heap) (locs : List Loc) (ls : Array Slot) (pc : Nat), Wd g s w.2 H locs → decode cX11_place pc = .ok (.ireturn, 1) → W p l e (rmm 4 104) s m args below meth c H locs 0 0 Q (F0 m pc ls [.int (w.1)])) {H : Heap} {locs : List Loc} {ls : Array Slot} (Y : Wd g s σ H locs) (hl : lv_has ls 7 [(0, .ref (g.2.2 (101))), (1, .int (x1)), (2, .int (x2)), (3, .int (x3)), (4, .int (x4)), (5, .int (x5))]) (h : f_X11_place_0 x1 x2 x3 x4 x5 σ = some w) : W p l e (rmm 4 104) s m args below meth c H locs 0 0 Q (F0 m 0 ls []) := by
  unfold f_X11_place_0 at h
  refine lv_aload_n X.1 X.2.1 (dk T_X11_place 0 rfl) rfl (lv_at hl 0 rfl) ?_
  refine lv_iconst (v := 0) X.1 X.2.1 (dk T_X11_place 1 rfl) ic_0 ?_
  refine gp X Y fp_X11_71 rfl (nar_int _) (dk T_X11_place 2 rfl) (fun H locs Y => ?_)
  refine lv_aload_n X.1 X.2.1 (dk T_X11_place 3 rfl) rfl (lv_at hl 0 rfl) ?_
  refine lv_iload_n X.1 X.2.1 (dk T_X11_place 4 rfl) rfl (lv_at hl 1 rfl) ?_
  obtain ⟨q1, hq1, h⟩ := bs h
  refine gvI (rest := []) X Y (c_X11_isShape x1 (up σ 101 0 0) hq1) cb_X11_188 rfl hl.1 rfl rfl (Nat.le_of_ble_eq_true rfl) ⟨Nat.le_of_ble_eq_true rfl, Nat.le_of_ble_eq_true rfl⟩ (dk T_X11_place 5 rfl) (fun H locs Y => ?_)
  refine lv_if_eq (tgt := 21) X.1 X.2.1 (dk T_X11_place 6 rfl) rfl (fun c2 => ?_) (fun c2 => ?_)
  · replace h := ipos c2 h
    exact w_X11_place_j21 X (up σ 101 0 0) KR Y (lv_sub hl [0] rfl) h
  · replace h := ineg c2 h
    refine lv_aload_n X.1 X.2.1 (dk T_X11_place 7 rfl) rfl (lv_at hl 0 rfl) ?_
    refine lv_iload_n X.1 X.2.1 (dk T_X11_place 8 rfl) rfl (lv_at hl 2 rfl) ?_
    obtain ⟨q4, hq4, h⟩ := bs h
    refine gvI (rest := []) X Y (c_X11_isSheet x2 (up σ 101 0 0) hq4) cb_X11_155 rfl hl.1 rfl rfl (Nat.le_of_ble_eq_true rfl) ⟨Nat.le_of_ble_eq_true rfl, Nat.le_of_ble_eq_true rfl⟩ (dk T_X11_place 9 rfl) (fun H locs Y => ?_)
    refine lv_if_ne (tgt := 27) X.1 X.2.1 (dk T_X11_place 10 rfl) rfl (fun c5 => ?_) (fun c5 => ?_)
    · replace h := ineg c5 h
      refine lv_iload X.1 X.2.1 (dk T_X11_place 15 rfl) (lv_at hl 5 rfl) ?_
      refine lv_iconst (v := 0) X.1 X.2.1 (dk T_X11_place 16 rfl) ic_0 ?_
      refine lv_iconst (v := 3) X.1 X.2.1 (dk T_X11_place 17 rfl) ic_3 ?_
      obtain ⟨q6, hq6, h⟩ := bs h
      refine gsI (rest := []) X Y (c_X11_in x5 0 3 (up σ 101 0 0) hq6) cb_X11_75 hl.1 rfl rfl (Nat.le_of_ble_eq_true rfl) ⟨Nat.le_of_ble_eq_true rfl, Nat.le_of_ble_eq_true rfl⟩ (dk T_X11_place 18 rfl) (fun H locs Y => ?_)
      refine lv_if_ne (tgt := 43) X.1 X.2.1 (dk T_X11_place 19 rfl) rfl (fun c7 => ?_) (fun c7 => ?_)
      · replace h := ineg c7 h
        refine lv_aload_n X.1 X.2.1 (dk T_X11_place 24 rfl) rfl (lv_at hl 0 rfl) ?_
        refine lv_iload_n X.1 X.2.1 (dk T_X11_place 25 rfl) rfl (lv_at hl 2 rfl) ?_
        obtain ⟨q8, hq8, h⟩ := bs h
        refine gvV (rest := []) X Y (c_X11_looks x2 (up σ 101 0 0) hq8) cb_X11_145 rfl hl.1 rfl rfl (Nat.le_of_ble_eq_true rfl) ⟨Nat.le_of_ble_eq_true rfl, Nat.le_of_ble_eq_true rfl⟩ (dk T_X11_place 26 rfl) (fun H locs Y => ?_)
        refine lv_aload_n X.1 X.2.1 (dk T_X11_place 27 rfl) rfl (lv_at hl 0 rfl) ?_
        refine lv_iload_n X.1 X.2.1 (dk T_X11_place 28 rfl) rfl (lv_at hl 1 rfl) ?_
        refine lv_iload_n X.1 X.2.1 (dk T_X11_place 29 rfl) rfl (lv_at hl 2 rfl) ?_
        refine lv_iload_n X.1 X.2.1 (dk T_X11_place 30 rfl) rfl (lv_at hl 3 rfl) ?_
        refine lv_iload X.1 X.2.1 (dk T_X11_place 31 rfl) (lv_at hl 4 rfl) ?_
        refine lv_iload X.1 X.2.1 (dk T_X11_place 32 rfl) (lv_at hl 5 rfl) ?_
        obtain ⟨q9, hq9, h⟩ := bs h
        refine gvV (rest := []) X Y (c_X11_judges x1 x2 x3 x4 x5 q8 hq9) cb_X11_214 rfl hl.1 rfl rfl (Nat.le_of_ble_eq_true rfl) ⟨Nat.le_of_ble_eq_true rfl, Nat.le_of_ble_eq_true rfl⟩ (dk T_X11_place 33 rfl) (fun H locs Y => ?_)
        refine lv_aload_n X.1 X.2.1 (dk T_X11_place 34 rfl) rfl (lv_at hl 0 rfl) ?_
        refine gg X Y fl_X11_200 rfl rfl (dk T_X11_place 35 rfl) ?_
        refine lv_if_le (tgt := 126) X.1 X.2.1 (dk T_X11_place 36 rfl) rfl (fun c10 => ?_) (fun c10 => ?_)
        · replace h := ipos c10 h
          refine lv_aload_n X.1 X.2.1 (dk T_X11_place 69 rfl) rfl (lv_at hl 0 rfl) ?_
          obtain ⟨q11, hq11, h⟩ := bs h
          refine gvV (rest := []) X Y (c_X11_changes q9 hq11) cb_X11_95 rfl hl.1 rfl rfl (Nat.le_of_ble_eq_true rfl) ⟨Nat.le_of_ble_eq_true rfl, Nat.le_of_ble_eq_true rfl⟩ (dk T_X11_place 70 rfl) (fun H locs Y => ?_)
          refine lv_aload_n X.1 X.2.1 (dk T_X11_place 71 rfl) rfl (lv_at hl 0 rfl) ?_
          refine lv_iload_n X.1 X.2.1 (dk T_X11_place 72 rfl) rfl (lv_at hl 1 rfl) ?_
          refine lv_iload_n X.1 X.2.1 (dk T_X11_place 73 rfl) rfl (lv_at hl 2 rfl) ?_
          refine lv_iload_n X.1 X.2.1 (dk T_X11_place 74 rfl) rfl (lv_at hl 3 rfl) ?_
          refine lv_iload X.1 X.2.1 (dk T_X11_place 75 rfl) (lv_at hl 4 rfl) ?_
          refine lv_iload X.1 X.2.1 (dk T_X11_place 76 rfl) (lv_at hl 5 rfl) ?_
          obtain ⟨q12, hq12, h⟩ := bs h
          refine gvI (rest := []) X Y (c_X11_places x1 x2 x3 x4 x5 q11 hq12) cb_X11_221 rfl hl.1 rfl rfl (Nat.le_of_ble_eq_true rfl) ⟨Nat.le_of_ble_eq_true rfl, Nat.le_of_ble_eq_true rfl⟩ (dk T_X11_place 77 rfl) (fun H locs Y => ?_)
          obtain rfl := Option.some.inj h
          exact KR _ _ _ _ Y (dk T_X11_place 78 rfl)
        · replace h := ineg c10 h
          refine lv_aload_n X.1 X.2.1 (dk T_X11_place 37 rfl) rfl (lv_at hl 0 rfl) ?_
          refine lv_aload_n X.1 X.2.1 (dk T_X11_place 38 rfl) rfl (lv_at hl 0 rfl) ?_
          refine gg X Y fl_X11_200 rfl rfl (dk T_X11_place 39 rfl) ?_
          refine gp X Y fp_X11_218 rfl (nar_int _) (dk T_X11_place 40 rfl) (fun H locs Y => ?_)
          refine lv_iconst (v := 0) X.1 X.2.1 (dk T_X11_place 41 rfl) ic_0 ?_
          refine lv_istore (lv' := [(6, .int (0)), (0, .ref (g.2.2 (101))), (1, .int (x1)), (2, .int (x2)), (3, .int (x3)), (4, .int (x4)), (5, .int (x5))]) X.1 X.2.1 (dk T_X11_place 42 rfl) hl (Nat.le_of_ble_eq_true rfl) rfl (fun ls hl => ?_)
          obtain ⟨q18, hq18, h⟩ := bs h
          refine w_X11_place_l77 X σ (fun v e H locs ls Y hl => ?_) FU (0, up q9 101 13 (q9 101 20)) Y (lv_sub hl [1, 0] rfl) hq18
          · obtain rfl := e
            refine lv_aload_n X.1 X.2.1 (dk T_X11_place 65 rfl) rfl (lv_at hl 0 rfl) ?_
            refine lv_iconst (v := 3) X.1 X.2.1 (dk T_X11_place 66 rfl) ic_3 ?_
            obtain ⟨q19, hq19, h⟩ := bs h
            refine gvI (rest := []) X Y (c_X11_fails 3 q18 hq19) cb_X11_91 rfl hl.1 rfl rfl (Nat.le_of_ble_eq_true rfl) ⟨Nat.le_of_ble_eq_true rfl, Nat.le_of_ble_eq_true rfl⟩ (dk T_X11_place 67 rfl) (fun H locs Y => ?_)
            obtain rfl := Option.some.inj h
            exact KR _ _ _ _ Y (dk T_X11_place 68 rfl)
      · replace h := ipos c7 h
        refine lv_aload_n X.1 X.2.1 (dk T_X11_place 20 rfl) rfl (lv_at hl 0 rfl) ?_
        refine lv_iconst (v := 2) X.1 X.2.1 (dk T_X11_place 21 rfl) ic_2 ?_
        obtain ⟨q20, hq20, h⟩ := bs h
        refine gvI (rest := []) X Y (c_X11_fails 2 (up σ 101 0 0) hq20) cb_X11_91 rfl hl.1 rfl rfl (Nat.le_of_ble_eq_true rfl) ⟨Nat.le_of_ble_eq_true rfl, Nat.le_of_ble_eq_true rfl⟩ (dk T_X11_place 22 rfl) (fun H locs Y => ?_)
        obtain rfl := Option.some.inj h
        exact KR _ _ _ _ Y (dk T_X11_place 23 rfl)
    · replace h := ipos c5 h
      exact w_X11_place_j21 X (up σ 101 0 0) KR Y (lv_sub hl [0] rfl) h
def f_X11_place (x1 : Int32) (x2 : Int32) (x3 : Int32) (x4 : Int32) (x5 : Int32) (σ : St) : Option (Int32 × St) := f_X11_place_0 x1 x2 x3 x4 x5 σ
set_option maxHeartbeats 4000000 in
set_option maxRecDepth 100000 in
theorem c_X11_place {l : Launch} {g : Geo} (x1 : Int32) (x2 : Int32) (x3 : Int32) (x4 : Int32) (x5 : Int32) (σ : St) {w : Int32 × St} (h : f_X11_place x1 x2 x3 x4 x5 σ = some w) : CtI l yX11_place cX11_place 7 (some .int) (rmm 4 104) g [.ref (g.2.2 (101)), .int (x1), .int (x2), .int (x3), .int (x4), .int (x5)] σ w.1 w.2 := enI .int (by decide) rfl rfl (Nat.le_of_ble_eq_true rfl) (fun p e s m args below meth c Q X Y ls hl KR => w_X11_place_0 X x1 x2 x3 x4 x5 σ KR Y hl h)
end
