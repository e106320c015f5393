theorem cb_X11_224 : CBV RX11 224 yX11_isPart cX11_isPart 2 (some .boolean) 1 12 := ⟨⟨mw 22 13 rfl rfl, mw 0 5 rfl rfl, mw 22 16 rfl rfl, by decide, by decide, by decide +kernel⟩, mw 22 14 rfl rfl, mw 22 15 rfl rfl, TX11, 48, tyX11, cl_X11⟩
theorem cb_X11_227 : CBV RX11 227 yX11_isEdge cX11_isEdge 4 (some .boolean) 2 12 := ⟨⟨mw 24 11 rfl rfl, mw 0 5 rfl rfl, mw 24 14 rfl rfl, by decide, by decide, by decide +kernel⟩, mw 24 12 rfl rfl, mw 24 13 rfl rfl, TX11, 48, tyX11, cl_X11⟩
theorem cb_X11_230 : CBV RX11 230 yX11_isBesideOutside cX11_isBesideOutside 5 (some .boolean) 2 12 := ⟨⟨mw 24 15 rfl rfl, mw 0 5 rfl rfl, mw 24 18 rfl rfl, by decide, by decide, by decide +kernel⟩, mw 24 16 rfl rfl, mw 24 17 rfl rfl, TX11, 48, tyX11, cl_X11⟩
theorem cb_X11_233 : CBV RX11 233 yX11_lowestCell cX11_lowestCell 4 (some .int) 1 12 := ⟨⟨mw 23 31 rfl rfl, mw 0 5 rfl rfl, mw 24 2 rfl rfl, by decide, by decide, by decide +kernel⟩, mw 24 0 rfl rfl, mw 24 1 rfl rfl, TX11, 48, tyX11, cl_X11⟩
theorem cb_X11_236 : CBV RX11 236 yX11_isWithin cX11_isWithin 7 (some .boolean) 2 12 := ⟨⟨mw 24 7 rfl rfl, mw 0 5 rfl rfl, mw 24 10 rfl rfl, by decide, by decide, by decide +kernel⟩, mw 24 8 rfl rfl, mw 24 9 rfl rfl, TX11, 48, tyX11, cl_X11⟩
theorem cb_X11_239 : CBV RX11 239 yX11_around cX11_around 5 (some .int) 1 12 := ⟨⟨mw 24 3 rfl rfl, mw 0 5 rfl rfl, mw 24 6 rfl rfl, by decide, by decide, by decide +kernel⟩, mw 24 4 rfl rfl, mw 24 5 rfl rfl, TX11, 48, tyX11, cl_X11⟩
theorem cb_X11_242 : CBV RX11 242 yX11_commonOf cX11_commonOf 12 (some .int) 5 12 := ⟨⟨mw 26 31 rfl rfl, mw 0 5 rfl rfl, mw 27 2 rfl rfl, by decide, by decide, by decide +kernel⟩, mw 27 0 rfl rfl, mw 27 1 rfl rfl, TX11, 48, tyX11, cl_X11⟩
theorem cb_X11_257 : CBV RX11 257 yX11_finds cX11_finds 8 (some .boolean) 1 12 := ⟨⟨mw 26 27 rfl rfl, mw 0 5 rfl rfl, mw 26 30 rfl rfl, by decide, by decide, by decide +kernel⟩, mw 26 28 rfl rfl, mw 26 29 rfl rfl, TX11, 48, tyX11, cl_X11⟩
theorem cb_X11_260 : CBV RX11 260 yX11_nestsNext cX11_nestsNext 3 (some .boolean) 0 12 := ⟨⟨mw 27 11 rfl rfl, mw 0 5 rfl rfl, mw 27 14 rfl rfl, by decide, by decide, by decide +kernel⟩, mw 27 12 rfl rfl, mw 27 13 rfl rfl, TX11, 48, tyX11, cl_X11⟩
theorem cb_X11_279 : CBV RX11 279 yX11_isRectangle cX11_isRectangle 10 (some .boolean) 6 12 := ⟨⟨mw 29 28 rfl rfl, mw 0 5 rfl rfl, mw 29 31 rfl rfl, by decide, by decide, by decide +kernel⟩, mw 29 29 rfl rfl, mw 29 30 rfl rfl, TX11, 48, tyX11, cl_X11⟩
theorem cb_X11_283 : CBV RX11 283 yX11_bounds cX11_bounds 5 none 2 12 := ⟨⟨mw 29 16 rfl rfl, mw 0 5 rfl rfl, mw 29 19 rfl rfl, by decide, by decide, by decide +kernel⟩, mw 29 17 rfl rfl, mw 29 18 rfl rfl, TX11, 48, tyX11, cl_X11⟩
theorem cb_X11_286 : CBV RX11 286 yX11_lowestOf cX11_lowestOf 3 (some .int) 1 12 := ⟨⟨mw 29 20 rfl rfl, mw 0 5 rfl rfl, mw 29 23 rfl rfl, by decide, by decide, by decide +kernel⟩, mw 29 21 rfl rfl, mw 29 22 rfl rfl, TX11, 48, tyX11, cl_X11⟩
theorem cb_X11_289 : CBV RX11 289 yX11_greatestRectangle cX11_greatestRectangle 9 (some .int) 2 12 := ⟨⟨mw 29 24 rfl rfl, mw 0 5 rfl rfl, mw 29 27 rfl rfl, by decide, by decide, by decide +kernel⟩, mw 29 25 rfl rfl, mw 29 26 rfl rfl, TX11, 48, tyX11, cl_X11⟩
theorem cb_X11_298 : CBV RX11 298 yX11_far cX11_far 7 (some .int) 3 12 := ⟨⟨mw 32 23 rfl rfl, mw 0 5 rfl rfl, mw 32 26 rfl rfl, by decide, by decide, by decide +kernel⟩, mw 32 24 rfl rfl, mw 32 25 rfl rfl, TX11, 48, tyX11, cl_X11⟩
theorem cb_X11_302 : CBV RX11 302 yX11_leftOf cX11_leftOf 7 (some .int) 3 12 := ⟨⟨mw 32 31 rfl rfl, mw 0 5 rfl rfl, mw 33 2 rfl rfl, by decide, by decide, by decide +kernel⟩, mw 33 0 rfl rfl, mw 33 1 rfl rfl, TX11, 48, tyX11, cl_X11⟩
section
variable {p : Program} {l : Launch} {e : Env} {s : State} {m : MethodId} {args : Array Value} {below : List Frame} {meth : Method} {c : Code} {Q : State → Prop} {g : Geo}
def I_X11_isPart : List (Nat × Instr × Nat) := [(0, .iload_n 1, 1), (1, .iconst 0, 1), (2, .aload_n 0, 1), (3, .getfield 7, 3), (6, .iconst 2, 1), (7, .iaload, 1), (8, .iconst 1, 1), (9, .isub, 1), (10, .invokestatic 75, 3), (13, .ireturn, 1)]
set_option maxRecDepth 100000 in
theorem T_X11_isPart : ∀ q ∈ I_X11_isPart, decode cX11_isPart q.1 = .ok (q.2.1, q.2.2) := by decide +kernel
def f_X11_isPart_0 (x1 : Int32) (σ : St) : Option (Int32) :=
  chk (inb 2 761) ((f_X11_in x1 0 ((σ 102 (2 : Int32).toNatClampNeg) - 1)).bind fun q2 => some q2)
set_option maxHeartbeats 4000000 in
set_option maxRecDepth 100000 in
theorem w_X11_isPart_0 (X : Cx g RX11 cX11_isPart 2 (some .boolean) p s m args meth c) (x1 : Int32) (σ : St) {w : Int32} (KR : ∀ (H : Heap) (locs : List Loc) (ls : Array Slot) (pc : Nat), Wd g s σ H locs → decode cX11_isPart pc = .ok (.ireturn, 1) → W p l e (rmm 1 22) s m args below meth c H locs 0 0 Q (F0 m pc ls [.int (w)])) {H : Heap} {locs : List Loc} {ls : Array Slot} (Y : Wd g s σ H locs) (hl : lv_has ls 2 [(0, .ref (g.2.2 (101))), (1, .int (x1))]) (h : f_X11_isPart_0 x1 σ = some w) : W p l e (rmm 1 22) s m args below meth c H locs 0 0 Q (F0 m 0 ls []) := by
  unfold f_X11_isPart_0 at h
  refine lv_iload_n X.1 X.2.1 (dk T_X11_isPart 0 rfl) rfl (lv_at hl 1 rfl) ?_
  refine lv_iconst (v := 0) X.1 X.2.1 (dk T_X11_isPart 1 rfl) ic_0 ?_
  refine lv_aload_n X.1 X.2.1 (dk T_X11_isPart 2 rfl) rfl (lv_at hl 0 rfl) ?_
  refine gg X Y fl_X11_7 rfl rfl (dk T_X11_isPart 3 rfl) ?_
  refine lv_iconst (v := 2) X.1 X.2.1 (dk T_X11_isPart 4 rfl) ic_2 ?_
  obtain ⟨g1, h⟩ := gd h
  refine gil X Y rfl (inp g1) (dk T_X11_isPart 5 rfl) ?_
  refine lv_iconst (v := 1) X.1 X.2.1 (dk T_X11_isPart 6 rfl) ic_1 ?_
  refine lv_isub X.1 X.2.1 (dk T_X11_isPart 7 rfl) ?_
  obtain ⟨q2, hq2, h⟩ := bs h
  refine gsI (rest := []) X Y (c_X11_in x1 0 ((σ 102 (2 : Int32).toNatClampNeg) - 1) σ hq2) cb_X11_75 hl.1 rfl rfl (Nat.le_of_ble_eq_true rfl) ⟨Nat.le_of_ble_eq_true rfl, Nat.le_of_ble_eq_true rfl⟩ (dk T_X11_isPart 8 rfl) (fun H locs Y => ?_)
  obtain rfl := Option.some.inj h
  exact KR _ _ _ _ Y (dk T_X11_isPart 9 rfl)
def f_X11_isPart (x1 : Int32) (σ : St) : Option (Int32) := bz (f_X11_isPart_0 x1 σ)
set_option maxHeartbeats 4000000 in
set_option maxRecDepth 100000 in
theorem c_X11_isPart {l : Launch} {g : Geo} (x1 : Int32) (σ : St) {w : Int32} (h : f_X11_isPart x1 σ = some w) : CtI l yX11_isPart cX11_isPart 2 (some .boolean) (rmm 1 22) g [.ref (g.2.2 (101)), .int (x1)] σ w σ := by
  obtain ⟨h, hz⟩ := bz_s h
  exact enI .boolean (by decide) rfl (bz_n hz) (Nat.le_of_ble_eq_true rfl) (fun p e s m args below meth c Q X Y ls hl KR => w_X11_isPart_0 X x1 σ KR Y hl h)
def I_X11_take : List (Nat × Instr × Nat) := [(0, .aload_n 0, 1), (1, .iconst 0, 1), (2, .putfield 71, 3), (5, .aload_n 0, 1), (6, .iload_n 1, 1), (7, .invokevirtual 224, 3), (10, .ifCond .ne 9, 3), (13, .aload_n 0, 1), (14, .iconst 1, 1), (15, .invokevirtual 91, 3), (18, .ireturn, 1), (19, .aload_n 0, 1), (20, .invokevirtual 95, 3), (23, .aload_n 0, 1), (24, .getfield 7, 3), (27, .sipush 661, 3), (30, .iload_n 1, 1), (31, .iadd, 1), (32, .iaload, 1), (33, .istore_n 2, 1), (34, .aload_n 0, 1), (35, .getfield 7, 3), (38, .sipush 653, 3), (41, .iload_n 2, 1), (42, .iadd, 1), (43, .dup2, 1), (44, .iaload, 1), (45, .aload_n 0, 1), (46, .getfield 7, 3), (49, .sipush 653, 3), (52, .iload_n 2, 1), (53, .iadd, 1), (54, .iaload, 1), (55, .bipush 99, 2), (57, .if_icmp .ge 7, 3), (60, .iconst 1, 1), (61, .goto 4, 3), (64, .iconst 0, 1), (65, .iadd, 1), (66, .iastore, 1), (67, .aload_n 0, 1), (68, .getfield 7, 3), (71, .iconst 2, 1), (72, .dup2, 1), (73, .iaload, 1), (74, .iconst 1, 1), (75, .isub, 1), (76, .iastore, 1), (77, .iload_n 1, 1), (78, .istore_n 3, 1), (79, .iload_n 3, 1), (80, .aload_n 0, 1), (81, .getfield 7, 3), (84, .iconst 2, 1), (85, .iaload, 1), (86, .if_icmp .ge 119, 3), (89, .aload_n 0, 1), (90, .getfield 7, 3), (93, .sipush 661, 3), (96, .iload_n 3, 1), (97, .iadd, 1), (98, .aload_n 0, 1), (99, .getfield 7, 3), (102, .sipush 661, 3), (105, .iload_n 3, 1), (106, .iadd, 1), (107, .iconst 1, 1), (108, .iadd, 1), (109, .iaload, 1), (110, .iastore, 1), (111, .aload_n 0, 1), (112, .getfield 7, 3), (115, .sipush 681, 3), (118, .iload_n 3, 1), (119, .iadd, 1), (120, .aload_n 0, 1), (121, .getfield 7, 3), (124, .sipush 681, 3), (127, .iload_n 3, 1), (128, .iadd, 1), (129, .iconst 1, 1), (130, .iadd, 1), (131, .iaload, 1), (132, .iastore, 1), (133, .aload_n 0, 1), (134, .getfield 7, 3), (137, .sipush 701, 3), (140, .iload_n 3, 1), (141, .iadd, 1), (142, .aload_n 0, 1), (143, .getfield 7, 3), (146, .sipush 701, 3), (149, .iload_n 3, 1), (150, .iadd, 1), (151, .iconst 1, 1), (152, .iadd, 1), (153, .iaload, 1), (154, .iastore, 1), (155, .aload_n 0, 1), (156, .getfield 7, 3), (159, .sipush 721, 3), (162, .iload_n 3, 1), (163, .iadd, 1), (164, .aload_n 0, 1), (165, .getfield 7, 3), (168, .sipush 721, 3), (171, .iload_n 3, 1), (172, .iadd, 1), (173, .iconst 1, 1), (174, .iadd, 1), (175, .iaload, 1), (176, .iastore, 1), (177, .aload_n 0, 1), (178, .getfield 7, 3), (181, .sipush 741, 3), (184, .iload_n 3, 1), (185, .iadd, 1), (186, .aload_n 0, 1), (187, .getfield 7, 3), (190, .sipush 741, 3), (193, .iload_n 3, 1), (194, .iadd, 1), (195, .iconst 1, 1), (196, .iadd, 1), (197, .iaload, 1), (198, .iastore, 1), (199, .iinc 3 1, 3), (202, .goto (-123), 3), (205, .aload_n 0, 1), (206, .getfield 7, 3), (209, .iconst 2, 1), (210, .iaload, 1), (211, .ireturn, 1)]
set_option maxRecDepth 100000 in
theorem T_X11_take : ∀ q ∈ I_X11_take, decode cX11_take q.1 = .ok (q.2.1, q.2.2) := by decide +kernel
def f_X11_take_l79 (z : Int32 × St) : Option ((Int32 × St) ⊕ (St)) :=
  chk (inb 2 761) (if (z.2 102 (2 : Int32).toNatClampNeg) ≤ z.1 then some (.inr z.2) else chk (inb ((661 + z.1) + 1) 761) (chk (inb (661 + z.1) 761) (chk (inb ((681 + z.1) + 1) 761) (chk (inb (681 + z.1) 761) (chk (inb ((701 + z.1) + 1) 761) (chk (inb (701 + z.1) 761) (chk (inb ((721 + z.1) + 1) 761) (chk (inb (721 + z.1) 761) (chk (inb ((741 + z.1) + 1) 761) (chk (inb (741 + z.1) 761) (some (.inl (z.1 + 1, up (up (up (up (up z.2 102 (661 + z.1).toNatClampNeg (z.2 102 ((661 + z.1) + 1).toNatClampNeg)) 102 (681 + z.1).toNatClampNeg ((up z.2 102 (661 + z.1).toNatClampNeg (z.2 102 ((661 + z.1) + 1).toNatClampNeg)) 102 ((681 + z.1) + 1).toNatClampNeg)) 102 (701 + z.1).toNatClampNeg ((up (up z.2 102 (661 + z.1).toNatClampNeg (z.2 102 ((661 + z.1) + 1).toNatClampNeg)) 102 (681 + z.1).toNatClampNeg ((up z.2 102 (661 + z.1).toNatClampNeg (z.2 102 ((661 + z.1) + 1).toNatClampNeg)) 102 ((681 + z.1) + 1).toNatClampNeg)) 102 ((701 + z.1) + 1).toNatClampNeg)) 102 (721 + z.1).toNatClampNeg ((up (up (up z.2 102 (661 + z.1).toNatClampNeg (z.2 102 ((661 + z.1) + 1).toNatClampNeg)) 102 (681 + z.1).toNatClampNeg ((up z.2 102 (661 + z.1).toNatClampNeg (z.2 102 ((661 + z.1) + 1).toNatClampNeg)) 102 ((681 + z.1) + 1).toNatClampNeg)) 102 (701 + z.1).toNatClampNeg ((up (up z.2 102 (661 + z.1).toNatClampNeg (z.2 102 ((661 + z.1) + 1).toNatClampNeg)) 102 (681 + z.1).toNatClampNeg ((up z.2 102 (661 + z.1).toNatClampNeg (z.2 102 ((661 + z.1) + 1).toNatClampNeg)) 102 ((681 + z.1) + 1).toNatClampNeg)) 102 ((701 + z.1) + 1).toNatClampNeg)) 102 ((721 + z.1) + 1).toNatClampNeg)) 102 (741 + z.1).toNatClampNeg ((up (up (up (up z.2 102 (661 + z.1).toNatClampNeg (z.2 102 ((661 + z.1) + 1).toNatClampNeg)) 102 (681 + z.1).toNatClampNeg ((up z.2 102 (661 + z.1).toNatClampNeg (z.2 102 ((661 + z.1) + 1).toNatClampNeg)) 102 ((681 + z.1) + 1).toNatClampNeg)) 102 (701 + z.1).toNatClampNeg ((up (up z.2 102 (661 + z.1).toNatClampNeg (z.2 102 ((661 + z.1) + 1).toNatClampNeg)) 102 (681 + z.1).toNatClampNeg ((up z.2 102 (661 + z.1).toNatClampNeg (z.2 102 ((661 + z.1) + 1).toNatClampNeg)) 102 ((681 + z.1) + 1).toNatClampNeg)) 102 ((701 + z.1) + 1).toNatClampNeg)) 102 (721 + z.1).toNatClampNeg ((up (up (up z.2 102 (661 + z.1).toNatClampNeg (z.2 102 ((661 + z.1) + 1).toNatClampNeg)) 102 (681 + z.1).toNatClampNeg ((up z.2 102 (661 + z.1).toNatClampNeg (z.2 102 ((661 + z.1) + 1).toNatClampNeg)) 102 ((681 + z.1) + 1).toNatClampNeg)) 102 (701 + z.1).toNatClampNeg ((up (up z.2 102 (661 + z.1).toNatClampNeg (z.2 102 ((661 + z.1) + 1).toNatClampNeg)) 102 (681 + z.1).toNatClampNeg ((up z.2 102 (661 + z.1).toNatClampNeg (z.2 102 ((661 + z.1) + 1).toNatClampNeg)) 102 ((681 + z.1) + 1).toNatClampNeg)) 102 ((701 + z.1) + 1).toNatClampNeg)) 102 ((721 + z.1) + 1).toNatClampNeg)) 102 ((741 + z.1) + 1).toNatClampNeg))))))))))))))
set_option maxHeartbeats 4000000 in
set_option maxRecDepth 100000 in
theorem w_X11_take_l79 (X : Cx g RX11 cX11_take 4 (some .int) p s m args meth c) (σ : St) {r : St} (KX0 : ∀ (v : St), r = v → ∀ (H : Heap) (locs : List Loc) (ls : Array Slot), Wd g s v H locs → lv_has ls 4 [(0, .ref (g.2.2 (101)))] → W p l e (rmm 2 43) s m args below meth c H locs 0 0 Q (F0 m 205 ls [])) : ∀ (n : Nat) (z : Int32 × St) {H : Heap} {locs : List Loc} {ls : Array Slot}, Wd g s z.2 H locs → lv_has ls 4 [(0, .ref (g.2.2 (101))), (3, .int (z.1))] → lp (f_X11_take_l79) n z = some r → W p l e (rmm 2 43) s m args below meth c H locs 0 0 Q (F0 m 79 ls []) := by
  intro n
  induction n with
  | zero => intro z H locs ls Y hl h; cases h
  | succ n ih =>
    intro z H locs ls Y hl h
    obtain ⟨w, h, hw⟩ := lps h
    have KB : ∀ (v0_ : Int32) (v1_ : St), w = .inl (v0_, v1_) → ∀ (H : Heap) (locs : List Loc) (ls : Array Slot), Wd g s v1_ H locs → lv_has ls 4 [(0, .ref (g.2.2 (101))), (3, .int (v0_))] → W p l e (rmm 2 43) s m args below meth c H locs 0 0 Q (F0 m 79 ls []) := fun v0_ v1_ e H locs ls Y hl => ih (v0_, v1_) Y hl (lpl hw e)
    have KX0 := fun (v : St) (e : w = .inr v) => KX0 v (lpr hw e)
    unfold f_X11_take_l79 at h
    refine lv_iload_n X.1 X.2.1 (dk T_X11_take 50 rfl) rfl (lv_at hl 1 rfl) ?_
    refine lv_aload_n X.1 X.2.1 (dk T_X11_take 51 rfl) rfl (lv_at hl 0 rfl) ?_
    refine gg X Y fl_X11_7 rfl rfl (dk T_X11_take 52 rfl) ?_
    refine lv_iconst (v := 2) X.1 X.2.1 (dk T_X11_take 53 rfl) ic_2 ?_
    obtain ⟨g11, h⟩ := gd h
    refine gil X Y rfl (inp g11) (dk T_X11_take 54 rfl) ?_
    refine lv_icmp_ge (tgt := 205) X.1 X.2.1 (dk T_X11_take 55 rfl) rfl (fun c12 => ?_) (fun c12 => ?_)
    · replace h := ipos c12 h
      exact KX0 z.2 (Option.some.inj h).symm _ _ _ Y (lv_sub hl [0] rfl)
    · replace h := ineg c12 h
      refine lv_aload_n X.1 X.2.1 (dk T_X11_take 56 rfl) rfl (lv_at hl 0 rfl) ?_
      refine gg X Y fl_X11_7 rfl rfl (dk T_X11_take 57 rfl) ?_
      refine lv_sipush (v := 661) X.1 X.2.1 (dk T_X11_take 58 rfl) sp_661 ?_
      refine lv_iload_n X.1 X.2.1 (dk T_X11_take 59 rfl) rfl (lv_at hl 1 rfl) ?_
      refine lv_iadd X.1 X.2.1 (dk T_X11_take 60 rfl) ?_
      refine lv_aload_n X.1 X.2.1 (dk T_X11_take 61 rfl) rfl (lv_at hl 0 rfl) ?_
      refine gg X Y fl_X11_7 rfl rfl (dk T_X11_take 62 rfl) ?_
      refine lv_sipush (v := 661) X.1 X.2.1 (dk T_X11_take 63 rfl) sp_661 ?_
      refine lv_iload_n X.1 X.2.1 (dk T_X11_take 64 rfl) rfl (lv_at hl 1 rfl) ?_
      refine lv_iadd X.1 X.2.1 (dk T_X11_take 65 rfl) ?_
      refine lv_iconst (v := 1) X.1 X.2.1 (dk T_X11_take 66 rfl) ic_1 ?_
      refine lv_iadd X.1 X.2.1 (dk T_X11_take 67 rfl) ?_
      obtain ⟨g13, h⟩ := gd h
      refine gil X Y rfl (inp g13) (dk T_X11_take 68 rfl) ?_
      obtain ⟨g14, h⟩ := gd h
      refine gis X Y rfl (inp g14) (dk T_X11_take 69 rfl) (fun H locs Y => ?_)
      refine lv_aload_n X.1 X.2.1 (dk T_X11_take 70 rfl) rfl (lv_at hl 0 rfl) ?_
      refine gg X Y fl_X11_7 rfl rfl (dk T_X11_take 71 rfl) ?_
      refine lv_sipush (v := 681) X.1 X.2.1 (dk T_X11_take 72 rfl) sp_681 ?_
      refine lv_iload_n X.1 X.2.1 (dk T_X11_take 73 rfl) rfl (lv_at hl 1 rfl) ?_
      refine lv_iadd X.1 X.2.1 (dk T_X11_take 74 rfl) ?_
      refine lv_aload_n X.1 X.2.1 (dk T_X11_take 75 rfl) rfl (lv_at hl 0 rfl) ?_
      refine gg X Y fl_X11_7 rfl rfl (dk T_X11_take 76 rfl) ?_
      refine lv_sipush (v := 681) X.1 X.2.1 (dk T_X11_take 77 rfl) sp_681 ?_
      refine lv_iload_n X.1 X.2.1 (dk T_X11_take 78 rfl) rfl (lv_at hl 1 rfl) ?_
      refine lv_iadd X.1 X.2.1 (dk T_X11_take 79 rfl) ?_
      refine lv_iconst (v := 1) X.1 X.2.1 (dk T_X11_take 80 rfl) ic_1 ?_
      refine lv_iadd X.1 X.2.1 (dk T_X11_take 81 rfl) ?_
      obtain ⟨g15, h⟩ := gd h
      refine gil X Y rfl (inp g15) (dk T_X11_take 82 rfl) ?_
      obtain ⟨g16, h⟩ := gd h
      refine gis X Y rfl (inp g16) (dk T_X11_take 83 rfl) (fun H locs Y => ?_)
      refine lv_aload_n X.1 X.2.1 (dk T_X11_take 84 rfl) rfl (lv_at hl 0 rfl) ?_
      refine gg X Y fl_X11_7 rfl rfl (dk T_X11_take 85 rfl) ?_
      refine lv_sipush (v := 701) X.1 X.2.1 (dk T_X11_take 86 rfl) sp_701 ?_
      refine lv_iload_n X.1 X.2.1 (dk T_X11_take 87 rfl) rfl (lv_at hl 1 rfl) ?_
      refine lv_iadd X.1 X.2.1 (dk T_X11_take 88 rfl) ?_
      refine lv_aload_n X.1 X.2.1 (dk T_X11_take 89 rfl) rfl (lv_at hl 0 rfl) ?_
      refine gg X Y fl_X11_7 rfl rfl (dk T_X11_take 90 rfl) ?_
      refine lv_sipush (v := 701) X.1 X.2.1 (dk T_X11_take 91 rfl) sp_701 ?_
      refine lv_iload_n X.1 X.2.1 (dk T_X11_take 92 rfl) rfl (lv_at hl 1 rfl) ?_
      refine lv_iadd X.1 X.2.1 (dk T_X11_take 93 rfl) ?_
      refine lv_iconst (v := 1) X.1 X.2.1 (dk T_X11_take 94 rfl) ic_1 ?_
      refine lv_iadd X.1 X.2.1 (dk T_X11_take 95 rfl) ?_
      obtain ⟨g17, h⟩ := gd h
      refine gil X Y rfl (inp g17) (dk T_X11_take 96 rfl) ?_
      obtain ⟨g18, h⟩ := gd h
      refine gis X Y rfl (inp g18) (dk T_X11_take 97 rfl) (fun H locs Y => ?_)
      refine lv_aload_n X.1 X.2.1 (dk T_X11_take 98 rfl) rfl (lv_at hl 0 rfl) ?_
      refine gg X Y fl_X11_7 rfl rfl (dk T_X11_take 99 rfl) ?_
      refine lv_sipush (v := 721) X.1 X.2.1 (dk T_X11_take 100 rfl) sp_721 ?_
      refine lv_iload_n X.1 X.2.1 (dk T_X11_take 101 rfl) rfl (lv_at hl 1 rfl) ?_
      refine lv_iadd X.1 X.2.1 (dk T_X11_take 102 rfl) ?_
      refine lv_aload_n X.1 X.2.1 (dk T_X11_take 103 rfl) rfl (lv_at hl 0 rfl) ?_
      refine gg X Y fl_X11_7 rfl rfl (dk T_X11_take 104 rfl) ?_
      refine lv_sipush (v := 721) X.1 X.2.1 (dk T_X11_take 105 rfl) sp_721 ?_
      refine lv_iload_n X.1 X.2.1 (dk T_X11_take 106 rfl) rfl (lv_at hl 1 rfl) ?_
      refine lv_iadd X.1 X.2.1 (dk T_X11_take 107 rfl) ?_
      refine lv_iconst (v := 1) X.1 X.2.1 (dk T_X11_take 108 rfl) ic_1 ?_
      refine lv_iadd X.1 X.2.1 (dk T_X11_take 109 rfl) ?_
      obtain ⟨g19, h⟩ := gd h
      refine gil X Y rfl (inp g19) (dk T_X11_take 110 rfl) ?_
      obtain ⟨g20, h⟩ := gd h
      refine gis X Y rfl (inp g20) (dk T_X11_take 111 rfl) (fun H locs Y => ?_)
      refine lv_aload_n X.1 X.2.1 (dk T_X11_take 112 rfl) rfl (lv_at hl 0 rfl) ?_
      refine gg X Y fl_X11_7 rfl rfl (dk T_X11_take 113 rfl) ?_
      refine lv_sipush (v := 741) X.1 X.2.1 (dk T_X11_take 114 rfl) sp_741 ?_
      refine lv_iload_n X.1 X.2.1 (dk T_X11_take 115 rfl) rfl (lv_at hl 1 rfl) ?_
      refine lv_iadd X.1 X.2.1 (dk T_X11_take 116 rfl) ?_
      refine lv_aload_n X.1 X.2.1 (dk T_X11_take 117 rfl) rfl (lv_at hl 0 rfl) ?_
      refine gg X Y fl_X11_7 rfl rfl (dk T_X11_take 118 rfl) ?_
      refine lv_sipush (v := 741) X.1 X.2.1 (dk T_X11_take 119 rfl) sp_741 ?_
      refine lv_iload_n X.1 X.2.1 (dk T_X11_take 120 rfl) rfl (lv_at hl 1 rfl) ?_
      refine lv_iadd X.1 X.2.1 (dk T_X11_take 121 rfl) ?_
      refine lv_iconst (v := 1) X.1 X.2.1 (dk T_X11_take 122 rfl) ic_1 ?_
      refine lv_iadd X.1 X.2.1 (dk T_X11_take 123 rfl) ?_
      obtain ⟨g21, h⟩ := gd h
      refine gil X Y rfl (inp g21) (dk T_X11_take 124 rfl) ?_
      obtain ⟨g22, h⟩ := gd h
      refine gis X Y rfl (inp g22) (dk T_X11_take 125 rfl) (fun H locs Y => ?_)
      refine lv_iinc (v := z.1 + 1) (lv' := [(3, .int (z.1 + 1)), (0, .ref (g.2.2 (101)))]) X.1 X.2.1 (dk T_X11_take 126 rfl) hl (k := 1) rfl (icx ic_1) (Nat.le_of_ble_eq_true rfl) rfl (fun ls hl => ?_)
      refine lv_goto (tgt := 79) X.1 X.2.1 (dk T_X11_take 127 rfl) rfl ?_
      exact KB (z.1 + 1) (up (up (up (up (up z.2 102 (661 + z.1).toNatClampNeg (z.2 102 ((661 + z.1) + 1).toNatClampNeg)) 102 (681 + z.1).toNatClampNeg ((up z.2 102 (661 + z.1).toNatClampNeg (z.2 102 ((661 + z.1) + 1).toNatClampNeg)) 102 ((681 + z.1) + 1).toNatClampNeg)) 102 (701 + z.1).toNatClampNeg ((up (up z.2 102 (661 + z.1).toNatClampNeg (z.2 102 ((661 + z.1) + 1).toNatClampNeg)) 102 (681 + z.1).toNatClampNeg ((up z.2 102 (661 + z.1).toNatClampNeg (z.2 102 ((661 + z.1) + 1).toNatClampNeg)) 102 ((681 + z.1) + 1).toNatClampNeg)) 102 ((701 + z.1) + 1).toNatClampNeg)) 102 (721 + z.1).toNatClampNeg ((up (up (up z.2 102 (661 + z.1).toNatClampNeg (z.2 102 ((661 + z.1) + 1).toNatClampNeg)) 102 (681 + z.1).toNatClampNeg ((up z.2 102 (661 + z.1).toNatClampNeg (z.2 102 ((661 + z.1) + 1).toNatClampNeg)) 102 ((681 + z.1) + 1).toNatClampNeg)) 102 (701 + z.1).toNatClampNeg ((up (up z.2 102 (661 + z.1).toNatClampNeg (z.2 102 ((661 + z.1) + 1).toNatClampNeg)) 102 (681 + z.1).toNatClampNeg ((up z.2 102 (661 + z.1).toNatClampNeg (z.2 102 ((661 + z.1) + 1).toNatClampNeg)) 102 ((681 + z.1) + 1).toNatClampNeg)) 102 ((701 + z.1) + 1).toNatClampNeg)) 102 ((721 + z.1) + 1).toNatClampNeg)) 102 (741 + z.1).toNatClampNeg ((up (up (up (up z.2 102 (661 + z.1).toNatClampNeg (z.2 102 ((661 + z.1) + 1).toNatClampNeg)) 102 (681 + z.1).toNatClampNeg ((up z.2 102 (661 + z.1).toNatClampNeg (z.2 102 ((661 + z.1) + 1).toNatClampNeg)) 102 ((681 + z.1) + 1).toNatClampNeg)) 102 (701 + z.1).toNatClampNeg ((up (up z.2 102 (661 + z.1).toNatClampNeg (z.2 102 ((661 + z.1) + 1).toNatClampNeg)) 102 (681 + z.1).toNatClampNeg ((up z.2 102 (661 + z.1).toNatClampNeg (z.2 102 ((661 + z.1) + 1).toNatClampNeg)) 102 ((681 + z.1) + 1).toNatClampNeg)) 102 ((701 + z.1) + 1).toNatClampNeg)) 102 (721 + z.1).toNatClampNeg ((up (up (up z.2 102 (661 + z.1).toNatClampNeg (z.2 102 ((661 + z.1) + 1).toNatClampNeg)) 102 (681 + z.1).toNatClampNeg ((up z.2 102 (661 + z.1).toNatClampNeg (z.2 102 ((661 + z.1) + 1).toNatClampNeg)) 102 ((681 + z.1) + 1).toNatClampNeg)) 102 (701 + z.1).toNatClampNeg ((up (up z.2 102 (661 + z.1).toNatClampNeg (z.2 102 ((661 + z.1) + 1).toNatClampNeg)) 102 (681 + z.1).toNatClampNeg ((up z.2 102 (661 + z.1).toNatClampNeg (z.2 102 ((661 + z.1) + 1).toNatClampNeg)) 102 ((681 + z.1) + 1).toNatClampNeg)) 102 ((701 + z.1) + 1).toNatClampNeg)) 102 ((721 + z.1) + 1).toNatClampNeg)) 102 ((741 + z.1) + 1).toNatClampNeg)) (Option.some.inj h).symm _ _ _ Y (lv_sub hl [1, 0] rfl)
def f_X11_take_j65 (x1 : Int32) (s0 : Int32) (s1 : Int32) (s2 : Int32) (σ : St) : Option (Int32 × St) :=
  chk (inb s2 761) (chk (inb 2 761) (chk (inb 2 761) ((lp (f_X11_take_l79) FU (x1, up (up σ 102 s2.toNatClampNeg (s1 + s0)) 102 (2 : Int32).toNatClampNeg (((up σ 102 s2.toNatClampNeg (s1 + s0)) 102 (2 : Int32).toNatClampNeg) - 1))).bind fun q23 => chk (inb 2 761) (some (q23 102 (2 : Int32).toNatClampNeg, q23)))))
set_option maxHeartbeats 4000000 in
set_option maxRecDepth 100000 in
theorem w_X11_take_j65 (X : Cx g RX11 cX11_take 4 (some .int) p s m args meth c) (x1 : Int32) (s0 : Int32) (s1 : Int32) (s2 : Int32) (σ : St) {w : Int32 × St} (KR : ∀ (H : Heap) (locs : List Loc) (ls : Array Slot) (pc : Nat), Wd g s w.2 H locs → decode cX11_take pc = .ok (.ireturn, 1) → W p l e (rmm 2 43) s m args below meth c H locs 0 0 Q (F0 m pc ls [.int (w.1)])) {H : Heap} {locs : List Loc} {ls : Array Slot} (Y : Wd g s σ H locs) (hl : lv_has ls 4 [(0, .ref (g.2.2 (101))), (1, .int (x1))]) (h : f_X11_take_j65 x1 s0 s1 s2 σ = some w) : W p l e (rmm 2 43) s m args below meth c H locs 0 0 Q (F0 m 65 ls [.int (s0), .int (s1), .int (s2), .ref (g.2.2 (102))]) := by
  unfold f_X11_take_j65 at h
  refine lv_iadd X.1 X.2.1 (dk T_X11_take 38 rfl) ?_
  obtain ⟨g8, h⟩ := gd h
  refine gis X Y rfl (inp g8) (dk T_X11_take 39 rfl) (fun H locs Y => ?_)
  refine lv_aload_n X.1 X.2.1 (dk T_X11_take 40 rfl) rfl (lv_at hl 0 rfl) ?_
  refine gg X Y fl_X11_7 rfl rfl (dk T_X11_take 41 rfl) ?_
  refine lv_iconst (v := 2) X.1 X.2.1 (dk T_X11_take 42 rfl) ic_2 ?_
  refine lv_dup2_11 X.1 X.2.1 (dk T_X11_take 43 rfl) rfl rfl ?_
  obtain ⟨g9, h⟩ := gd h
  refine gil X Y rfl (inp g9) (dk T_X11_take 44 rfl) ?_
  refine lv_iconst (v := 1) X.1 X.2.1 (dk T_X11_take 45 rfl) ic_1 ?_
  refine lv_isub X.1 X.2.1 (dk T_X11_take 46 rfl) ?_
  obtain ⟨g10, h⟩ := gd h
  refine gis X Y rfl (inp g10) (dk T_X11_take 47 rfl) (fun H locs Y => ?_)
  refine lv_iload_n X.1 X.2.1 (dk T_X11_take 48 rfl) rfl (lv_at hl 1 rfl) ?_
  refine lv_istore_n (lv' := [(3, .int (x1)), (0, .ref (g.2.2 (101))), (1, .int (x1))]) X.1 X.2.1 (dk T_X11_take 49 rfl) rfl hl (Nat.le_of_ble_eq_true rfl) rfl (fun ls hl => ?_)
  obtain ⟨q23, hq23, h⟩ := bs h
  refine w_X11_take_l79 X σ (fun v e H locs ls Y hl => ?_) FU (x1, up (up σ 102 s2.toNatClampNeg (s1 + s0)) 102 (2 : Int32).toNatClampNeg (((up σ 102 s2.toNatClampNeg (s1 + s0)) 102 (2 : Int32).toNatClampNeg) - 1)) Y (lv_sub hl [1, 0] rfl) hq23
  · obtain rfl := e
    refine lv_aload_n X.1 X.2.1 (dk T_X11_take 128 rfl) rfl (lv_at hl 0 rfl) ?_
    refine gg X Y fl_X11_7 rfl rfl (dk T_X11_take 129 rfl) ?_
    refine lv_iconst (v := 2) X.1 X.2.1 (dk T_X11_take 130 rfl) ic_2 ?_
    obtain ⟨g24, h⟩ := gd h
    refine gil X Y rfl (inp g24) (dk T_X11_take 131 rfl) ?_
    obtain rfl := Option.some.inj h
    exact KR _ _ _ _ Y (dk T_X11_take 132 rfl)
def f_X11_take_0 (x1 : Int32) (σ : St) : Option (Int32 × St) :=
  (f_X11_isPart x1 (up σ 101 0 0)).bind fun q1 => if q1 = 0 then (f_X11_fails 1 (up σ 101 0 0)).bind fun q25 => some (q25.1, q25.2) else (f_X11_changes (up σ 101 0 0)).bind fun q3 => chk (inb (661 + x1) 761) (chk (inb (653 + (q3 102 (661 + x1).toNatClampNeg)) 761) (chk (inb (653 + (q3 102 (661 + x1).toNatClampNeg)) 761) (if 99 ≤ (q3 102 (653 + (q3 102 (661 + x1).toNatClampNeg)).toNatClampNeg) then f_X11_take_j65 x1 0 (q3 102 (653 + (q3 102 (661 + x1).toNatClampNeg)).toNatClampNeg) (653 + (q3 102 (661 + x1).toNatClampNeg)) q3 else f_X11_take_j65 x1 1 (q3 102 (653 + (q3 102 (661 + x1).toNatClampNeg)).toNatClampNeg) (653 + (q3 102 (661 + x1).toNatClampNeg)) q3)))
set_option maxHeartbeats 4000000 in
set_option maxRecDepth 100000 in
theorem w_X11_take_0 (X : Cx g RX11 cX11_take 4 (some .int) p s m args meth c) (x1 : Int32) (σ : St) {w : Int32 × St} (KR : ∀ (H : Heap) (locs : List Loc) (ls : Array Slot) (pc : Nat), Wd g s w.2 H locs → decode cX11_take pc = .ok (.ireturn, 1) → W p l e (rmm 2 43) s m args below meth c H locs 0 0 Q (F0 m pc ls [.int (w.1)])) {H : Heap} {locs : List Loc} {ls : Array Slot} (Y : Wd g s σ H locs) (hl : lv_has ls 4 [(0, .ref (g.2.2 (101))), (1, .int (x1))]) (h : f_X11_take_0 x1 σ = some w) : W p l e (rmm 2 43) s m args below meth c H locs 0 0 Q (F0 m 0 ls []) := by
  unfold f_X11_take_0 at h
  refine lv_aload_n X.1 X.2.1 (dk T_X11_take 0 rfl) rfl (lv_at hl 0 rfl) ?_
  refine lv_iconst (v := 0) X.1 X.2.1 (dk T_X11_take 1 rfl) ic_0 ?_
  refine gp X Y fp_X11_71 rfl (nar_int _) (dk T_X11_take 2 rfl) (fun H locs Y => ?_)
  refine lv_aload_n X.1 X.2.1 (dk T_X11_take 3 rfl) rfl (lv_at hl 0 rfl) ?_
  refine lv_iload_n X.1 X.2.1 (dk T_X11_take 4 rfl) rfl (lv_at hl 1 rfl) ?_
  obtain ⟨q1, hq1, h⟩ := bs h
  refine gvI (rest := []) X Y (c_X11_isPart x1 (up σ 101 0 0) hq1) cb_X11_224 rfl hl.1 rfl rfl (Nat.le_of_ble_eq_true rfl) ⟨Nat.le_of_ble_eq_true rfl, Nat.le_of_ble_eq_true rfl⟩ (dk T_X11_take 5 rfl) (fun H locs Y => ?_)
  refine lv_if_ne (tgt := 19) X.1 X.2.1 (dk T_X11_take 6 rfl) rfl (fun c2 => ?_) (fun c2 => ?_)
  · replace h := ineg c2 h
    refine lv_aload_n X.1 X.2.1 (dk T_X11_take 11 rfl) rfl (lv_at hl 0 rfl) ?_
    obtain ⟨q3, hq3, h⟩ := bs h
    refine gvV (rest := []) X Y (c_X11_changes (up σ 101 0 0) hq3) cb_X11_95 rfl hl.1 rfl rfl (Nat.le_of_ble_eq_true rfl) ⟨Nat.le_of_ble_eq_true rfl, Nat.le_of_ble_eq_true rfl⟩ (dk T_X11_take 12 rfl) (fun H locs Y => ?_)
    refine lv_aload_n X.1 X.2.1 (dk T_X11_take 13 rfl) rfl (lv_at hl 0 rfl) ?_
    refine gg X Y fl_X11_7 rfl rfl (dk T_X11_take 14 rfl) ?_
    refine lv_sipush (v := 661) X.1 X.2.1 (dk T_X11_take 15 rfl) sp_661 ?_
    refine lv_iload_n X.1 X.2.1 (dk T_X11_take 16 rfl) rfl (lv_at hl 1 rfl) ?_
    refine lv_iadd X.1 X.2.1 (dk T_X11_take 17 rfl) ?_
    obtain ⟨g4, h⟩ := gd h
    refine gil X Y rfl (inp g4) (dk T_X11_take 18 rfl) ?_
    refine lv_istore_n (lv' := [(2, .int (q3 102 (661 + x1).toNatClampNeg)), (0, .ref (g.2.2 (101))), (1, .int (x1))]) X.1 X.2.1 (dk T_X11_take 19 rfl) rfl hl (Nat.le_of_ble_eq_true rfl) rfl (fun ls hl => ?_)
    refine lv_aload_n X.1 X.2.1 (dk T_X11_take 20 rfl) rfl (lv_at hl 1 rfl) ?_
    refine gg X Y fl_X11_7 rfl rfl (dk T_X11_take 21 rfl) ?_
    refine lv_sipush (v := 653) X.1 X.2.1 (dk T_X11_take 22 rfl) sp_653 ?_
    refine lv_iload_n X.1 X.2.1 (dk T_X11_take 23 rfl) rfl (lv_at hl 0 rfl) ?_
    refine lv_iadd X.1 X.2.1 (dk T_X11_take 24 rfl) ?_
    refine lv_dup2_11 X.1 X.2.1 (dk T_X11_take 25 rfl) rfl rfl ?_
    obtain ⟨g5, h⟩ := gd h
    refine gil X Y rfl (inp g5) (dk T_X11_take 26 rfl) ?_
    refine lv_aload_n X.1 X.2.1 (dk T_X11_take 27 rfl) rfl (lv_at hl 1 rfl) ?_
    refine gg X Y fl_X11_7 rfl rfl (dk T_X11_take 28 rfl) ?_
    refine lv_sipush (v := 653) X.1 X.2.1 (dk T_X11_take 29 rfl) sp_653 ?_
    refine lv_iload_n X.1 X.2.1 (dk T_X11_take 30 rfl) rfl (lv_at hl 0 rfl) ?_
    refine lv_iadd X.1 X.2.1 (dk T_X11_take 31 rfl) ?_
    obtain ⟨g6, h⟩ := gd h
    refine gil X Y rfl (inp g6) (dk T_X11_take 32 rfl) ?_
    refine lv_bipush (v := 99) X.1 X.2.1 (dk T_X11_take 33 rfl) bp_99 ?_
    refine lv_icmp_ge (tgt := 64) X.1 X.2.1 (dk T_X11_take 34 rfl) rfl (fun c7 => ?_) (fun c7 => ?_)
    · replace h := ipos c7 h
      refine lv_iconst (v := 0) X.1 X.2.1 (dk T_X11_take 37 rfl) ic_0 ?_
      exact w_X11_take_j65 X x1 0 (q3 102 (653 + (q3 102 (661 + x1).toNatClampNeg)).toNatClampNeg) (653 + (q3 102 (661 + x1).toNatClampNeg)) q3 KR Y (lv_sub hl [1, 2] rfl) h
    · replace h := ineg c7 h
      refine lv_iconst (v := 1) X.1 X.2.1 (dk T_X11_take 35 rfl) ic_1 ?_
      refine lv_goto (tgt := 65) X.1 X.2.1 (dk T_X11_take 36 rfl) rfl ?_
      exact w_X11_take_j65 X x1 1 (q3 102 (653 + (q3 102 (661 + x1).toNatClampNeg)).toNatClampNeg) (653 + (q3 102 (661 + x1).toNatClampNeg)) q3 KR Y (lv_sub hl [1, 2] rfl) h
  · replace h := ipos c2 h
    refine lv_aload_n X.1 X.2.1 (dk T_X11_take 7 rfl) rfl (lv_at hl 0 rfl) ?_
    refine lv_iconst (v := 1) X.1 X.2.1 (dk T_X11_take 8 rfl) ic_1 ?_
    obtain ⟨q25, hq25, h⟩ := bs h
    refine gvI (rest := []) X Y (c_X11_fails 1 (up σ 101 0 0) hq25) cb_X11_91 rfl hl.1 rfl rfl (Nat.le_of_ble_eq_true rfl) ⟨Nat.le_of_ble_eq_true rfl, Nat.le_of_ble_eq_true rfl⟩ (dk T_X11_take 9 rfl) (fun H locs Y => ?_)
    obtain rfl := Option.some.inj h
    exact KR _ _ _ _ Y (dk T_X11_take 10 rfl)
def f_X11_take (x1 : Int32) (σ : St) : Option (Int32 × St) := f_X11_take_0 x1 σ
set_option maxHeartbeats 4000000 in
set_option maxRecDepth 100000 in
theorem c_X11_take {l : Launch} {g : Geo} (x1 : Int32) (σ : St) {w : Int32 × St} (h : f_X11_take x1 σ = some w) : CtI l yX11_take cX11_take 4 (some .int) (rmm 2 43) g [.ref (g.2.2 (101)), .int (x1)] σ w.1 w.2 := enI .int (by decide) rfl rfl (Nat.le_of_ble_eq_true rfl) (fun p e s m args below meth c Q X Y ls hl KR => w_X11_take_0 X x1 σ KR Y hl h)
def I_X11_lowestCell : List (Nat × Instr × Nat) := [(0, .aload_n 0, 1), (1, .aload_n 0, 1), (2, .getfield 7, 3), (5, .sipush 661, 3), (8, .iload_n 1, 1), (9, .iadd, 1), (10, .iaload, 1), (11, .aload_n 0, 1), (12, .getfield 7, 3), (15, .sipush 741, 3), (18, .iload_n 1, 1), (19, .iadd, 1), (20, .iaload, 1), (21, .invokevirtual 136, 3), (24, .istore_n 2, 1), (25, .iconst 0, 1), (26, .istore_n 3, 1), (27, .iload_n 2, 1), (28, .iload_n 3, 1), (29, .invokestatic 105, 3), (32, .ifCond .ne 9, 3), (35, .iinc 3 1, 3), (38, .goto (-11), 3), (41, .aload_n 0, 1), (42, .iload_n 1, 1), (43, .iload_n 3, 1), (44, .invokevirtual 139, 3), (47, .ireturn, 1)]
set_option maxRecDepth 100000 in
theorem T_X11_lowestCell : ∀ q ∈ I_X11_lowestCell, decode cX11_lowestCell q.1 = .ok (q.2.1, q.2.2) := by decide +kernel
def f_X11_lowestCell_l27 (x1 : Int32) (x2 : Int32) (σ : St) (z : Int32) : Option ((Int32) ⊕ (Int32)) :=
  (f_X11_has x2 z).bind fun q4 => if q4 = 0 then some (.inl (z + 1)) else some (.inr z)
set_option maxHeartbeats 4000000 in
set_option maxRecDepth 100000 in
theorem w_X11_lowestCell_l27 (X : Cx g RX11 cX11_lowestCell 4 (some .int) p s m args meth c) (x1 : Int32) (x2 : Int32) (σ : St) {r : Int32} (KX0 : ∀ (v : Int32), r = v → ∀ (H : Heap) (locs : List Loc) (ls : Array Slot), Wd g s σ H locs → lv_has ls 4 [(0, .ref (g.2.2 (101))), (1, .int (x1)), (3, .int (v))] → W p l e (rmm 3 71) s m args below meth c H locs 0 0 Q (F0 m 41 ls [])) : ∀ (n : Nat) (z : Int32) {H : Heap} {locs : List Loc} {ls : Array Slot}, Wd g s σ H locs → lv_has ls 4 [(0, .ref (g.2.2 (101))), (1, .int (x1)), (2, .int (x2)), (3, .int (z))] → lp (f_X11_lowestCell_l27 x1 x2 σ) n z = some r → W p l e (rmm 3 71) s m args below meth c H locs 0 0 Q (F0 m 27 ls []) := by
  intro n
  induction n with
  | zero => intro z H locs ls Y hl h; cases h
  | succ n ih =>
    intro z H locs ls Y hl h
    obtain ⟨w, h, hw⟩ := lps h
    have KB : ∀ (v : Int32), w = .inl v → ∀ (H : Heap) (locs : List Loc) (ls : Array Slot), Wd g s σ H locs → lv_has ls 4 [(0, .ref (g.2.2 (101))), (1, .int (x1)), (2, .int (x2)), (3, .int (v))] → W p l e (rmm 3 71) s m args below meth c H locs 0 0 Q (F0 m 27 ls []) := fun v e H locs ls Y hl => ih v Y hl (lpl hw e)
    have KX0 := fun (v : Int32) (e : w = .inr v) => KX0 v (lpr hw e)
    unfold f_X11_lowestCell_l27 at h
    refine lv_iload_n X.1 X.2.1 (dk T_X11_lowestCell 17 rfl) rfl (lv_at hl 2 rfl) ?_
    refine lv_iload_n X.1 X.2.1 (dk T_X11_lowestCell 18 rfl) rfl (lv_at hl 3 rfl) ?_
    obtain ⟨q4, hq4, h⟩ := bs h
    refine gsI (rest := []) X Y (c_X11_has x2 z σ hq4) cb_X11_105 hl.1 rfl rfl (Nat.le_of_ble_eq_true rfl) ⟨Nat.le_of_ble_eq_true rfl, Nat.le_of_ble_eq_true rfl⟩ (dk T_X11_lowestCell 19 rfl) (fun H locs Y => ?_)
    refine lv_if_ne (tgt := 41) X.1 X.2.1 (dk T_X11_lowestCell 20 rfl) rfl (fun c5 => ?_) (fun c5 => ?_)
    · replace h := ineg c5 h
      exact KX0 z (Option.some.inj h).symm _ _ _ Y (lv_sub hl [0, 1, 3] rfl)
    · replace h := ipos c5 h
      refine lv_iinc (v := z + 1) (lv' := [(3, .int (z + 1)), (0, .ref (g.2.2 (101))), (1, .int (x1)), (2, .int (x2))]) X.1 X.2.1 (dk T_X11_lowestCell 21 rfl) hl (k := 3) rfl (icx ic_1) (Nat.le_of_ble_eq_true rfl) rfl (fun ls hl => ?_)
      refine lv_goto (tgt := 27) X.1 X.2.1 (dk T_X11_lowestCell 22 rfl) rfl ?_
      exact KB (z + 1) (Option.some.inj h).symm _ _ _ Y (lv_sub hl [1, 2, 3, 0] rfl)
def f_X11_lowestCell_0 (x1 : Int32) (σ : St) : Option (Int32) :=
  chk (inb (661 + x1) 761) (chk (inb (741 + x1) 761) ((f_X11_turnedSet (σ 102 (661 + x1).toNatClampNeg) (σ 102 (741 + x1).toNatClampNeg) σ).bind fun q3 => (lp (f_X11_lowestCell_l27 x1 q3 σ) FU 0).bind fun q6 => (f_X11_cellOf x1 q6 σ).bind fun q7 => some q7))
set_option maxHeartbeats 4000000 in
set_option maxRecDepth 100000 in
theorem w_X11_lowestCell_0 (X : Cx g RX11 cX11_lowestCell 4 (some .int) p s m args meth c) (x1 : Int32) (σ : St) {w : Int32} (KR : ∀ (H : Heap) (locs : List Loc) (ls : Array Slot) (pc : Nat), Wd g s σ H locs → decode cX11_lowestCell pc = .ok (.ireturn, 1) → W p l e (rmm 3 71) s m args below meth c H locs 0 0 Q (F0 m pc ls [.int (w)])) {H : Heap} {locs : List Loc} {ls : Array Slot} (Y : Wd g s σ H locs) (hl : lv_has ls 4 [(0, .ref (g.2.2 (101))), (1, .int (x1))]) (h : f_X11_lowestCell_0 x1 σ = some w) : W p l e (rmm 3 71) s m args below meth c H locs 0 0 Q (F0 m 0 ls []) := by
  unfold f_X11_lowestCell_0 at h
  refine lv_aload_n X.1 X.2.1 (dk T_X11_lowestCell 0 rfl) rfl (lv_at hl 0 rfl) ?_
  refine lv_aload_n X.1 X.2.1 (dk T_X11_lowestCell 1 rfl) rfl (lv_at hl 0 rfl) ?_
  refine gg X Y fl_X11_7 rfl rfl (dk T_X11_lowestCell 2 rfl) ?_
  refine lv_sipush (v := 661) X.1 X.2.1 (dk T_X11_lowestCell 3 rfl) sp_661 ?_
  refine lv_iload_n X.1 X.2.1 (dk T_X11_lowestCell 4 rfl) rfl (lv_at hl 1 rfl) ?_
  refine lv_iadd X.1 X.2.1 (dk T_X11_lowestCell 5 rfl) ?_
  obtain ⟨g1, h⟩ := gd h
  refine gil X Y rfl (inp g1) (dk T_X11_lowestCell 6 rfl) ?_
  refine lv_aload_n X.1 X.2.1 (dk T_X11_lowestCell 7 rfl) rfl (lv_at hl 0 rfl) ?_
  refine gg X Y fl_X11_7 rfl rfl (dk T_X11_lowestCell 8 rfl) ?_
  refine lv_sipush (v := 741) X.1 X.2.1 (dk T_X11_lowestCell 9 rfl) sp_741 ?_
  refine lv_iload_n X.1 X.2.1 (dk T_X11_lowestCell 10 rfl) rfl (lv_at hl 1 rfl) ?_
  refine lv_iadd X.1 X.2.1 (dk T_X11_lowestCell 11 rfl) ?_
  obtain ⟨g2, h⟩ := gd h
  refine gil X Y rfl (inp g2) (dk T_X11_lowestCell 12 rfl) ?_
  obtain ⟨q3, hq3, h⟩ := bs h
  refine gvI (rest := []) X Y (c_X11_turnedSet (σ 102 (661 + x1).toNatClampNeg) (σ 102 (741 + x1).toNatClampNeg) σ hq3) cb_X11_136 rfl hl.1 rfl rfl (Nat.le_of_ble_eq_true rfl) ⟨Nat.le_of_ble_eq_true rfl, Nat.le_of_ble_eq_true rfl⟩ (dk T_X11_lowestCell 13 rfl) (fun H locs Y => ?_)
  refine lv_istore_n (lv' := [(2, .int (q3)), (0, .ref (g.2.2 (101))), (1, .int (x1))]) X.1 X.2.1 (dk T_X11_lowestCell 14 rfl) rfl hl (Nat.le_of_ble_eq_true rfl) rfl (fun ls hl => ?_)
  refine lv_iconst (v := 0) X.1 X.2.1 (dk T_X11_lowestCell 15 rfl) ic_0 ?_
  refine lv_istore_n (lv' := [(3, .int (0)), (2, .int (q3)), (0, .ref (g.2.2 (101))), (1, .int (x1))]) X.1 X.2.1 (dk T_X11_lowestCell 16 rfl) rfl hl (Nat.le_of_ble_eq_true rfl) rfl (fun ls hl => ?_)
  obtain ⟨q6, hq6, h⟩ := bs h
  refine w_X11_lowestCell_l27 X x1 q3 σ (fun v e H locs ls Y hl => ?_) FU 0 Y (lv_sub hl [2, 3, 1, 0] rfl) hq6
  · obtain rfl := e
    refine lv_aload_n X.1 X.2.1 (dk T_X11_lowestCell 23 rfl) rfl (lv_at hl 0 rfl) ?_
    refine lv_iload_n X.1 X.2.1 (dk T_X11_lowestCell 24 rfl) rfl (lv_at hl 1 rfl) ?_
    refine lv_iload_n X.1 X.2.1 (dk T_X11_lowestCell 25 rfl) rfl (lv_at hl 2 rfl) ?_
    obtain ⟨q7, hq7, h⟩ := bs h
    refine gvI (rest := []) X Y (c_X11_cellOf x1 q6 σ hq7) cb_X11_139 rfl hl.1 rfl rfl (Nat.le_of_ble_eq_true rfl) ⟨Nat.le_of_ble_eq_true rfl, Nat.le_of_ble_eq_true rfl⟩ (dk T_X11_lowestCell 26 rfl) (fun H locs Y => ?_)
    obtain rfl := Option.some.inj h
    exact KR _ _ _ _ Y (dk T_X11_lowestCell 27 rfl)
def f_X11_lowestCell (x1 : Int32) (σ : St) : Option (Int32) := f_X11_lowestCell_0 x1 σ
set_option maxHeartbeats 4000000 in
set_option maxRecDepth 100000 in
theorem c_X11_lowestCell {l : Launch} {g : Geo} (x1 : Int32) (σ : St) {w : Int32} (h : f_X11_lowestCell x1 σ = some w) : CtI l yX11_lowestCell cX11_lowestCell 4 (some .int) (rmm 3 71) g [.ref (g.2.2 (101)), .int (x1)] σ w σ := enI .int (by decide) rfl rfl (Nat.le_of_ble_eq_true rfl) (fun p e s m args below meth c Q X Y ls hl KR => w_X11_lowestCell_0 X x1 σ KR Y hl h)
def I_X11_isEdge : List (Nat × Instr × Nat) := [(0, .aload_n 0, 1), (1, .getfield 7, 3), (4, .iconst 3, 1), (5, .iload_n 1, 1), (6, .iadd, 1), (7, .iaload, 1), (8, .istore_n 3, 1), (9, .iload_n 2, 1), (10, .iload_n 3, 1), (11, .if_icmp .lt 28, 3), (14, .iload_n 2, 1), (15, .iload_n 3, 1), (16, .iadd, 1), (17, .aload_n 0, 1), (18, .iload_n 1, 1), (19, .invokevirtual 149, 3), (22, .if_icmp .ge 17, 3), (25, .iload_n 2, 1), (26, .iload_n 3, 1), (27, .irem, 1), (28, .ifCond .eq 11, 3), (31, .iload_n 2, 1), (32, .iconst 1, 1), (33, .iadd, 1), (34, .iload_n 3, 1), (35, .irem, 1), (36, .ifCond .ne 7, 3), (39, .iconst 1, 1), (40, .goto 4, 3), (43, .iconst 0, 1), (44, .ireturn, 1)]
set_option maxRecDepth 100000 in
theorem T_X11_isEdge : ∀ q ∈ I_X11_isEdge, decode cX11_isEdge q.1 = .ok (q.2.1, q.2.2) := by decide +kernel
def f_X11_isEdge_j39 (σ : St) : Option (Int32) :=
  some 1
set_option maxHeartbeats 4000000 in
set_option maxRecDepth 100000 in
theorem w_X11_isEdge_j39 (X : Cx g RX11 cX11_isEdge 4 (some .boolean) p s m args meth c) (σ : St) {w : Int32} (KR : ∀ (H : Heap) (locs : List Loc) (ls : Array Slot) (pc : Nat), Wd g s σ H locs → decode cX11_isEdge pc = .ok (.ireturn, 1) → W p l e (rmm 1 21) s m args below meth c H locs 0 0 Q (F0 m pc ls [.int (w)])) {H : Heap} {locs : List Loc} {ls : Array Slot} (Y : Wd g s σ H locs) (hl : lv_has ls 4 []) (h : f_X11_isEdge_j39 σ = some w) : W p l e (rmm 1 21) s m args below meth c H locs 0 0 Q (F0 m 39 ls []) := by
  unfold f_X11_isEdge_j39 at h
  refine lv_iconst (v := 1) X.1 X.2.1 (dk T_X11_isEdge 27 rfl) ic_1 ?_
  refine lv_goto (tgt := 44) X.1 X.2.1 (dk T_X11_isEdge 28 rfl) rfl ?_
  obtain rfl := Option.some.inj h
  exact KR _ _ _ _ Y (dk T_X11_isEdge 30 rfl)
def f_X11_isEdge_0 (x1 : Int32) (x2 : Int32) (σ : St) : Option (Int32) :=
  chk (inb (3 + x1) 761) (if x2 < (σ 102 (3 + x1).toNatClampNeg) then f_X11_isEdge_j39 σ else (f_X11_cells x1 σ).bind fun q3 => if q3 ≤ (x2 + (σ 102 (3 + x1).toNatClampNeg)) then f_X11_isEdge_j39 σ else chk (nz (σ 102 (3 + x1).toNatClampNeg)) (if (x2 - x2 / (σ 102 (3 + x1).toNatClampNeg) * (σ 102 (3 + x1).toNatClampNeg)) = 0 then f_X11_isEdge_j39 σ else chk (nz (σ 102 (3 + x1).toNatClampNeg)) (if ((x2 + 1) - (x2 + 1) / (σ 102 (3 + x1).toNatClampNeg) * (σ 102 (3 + x1).toNatClampNeg)) = 0 then f_X11_isEdge_j39 σ else some 0)))
set_option maxHeartbeats 4000000 in
set_option maxRecDepth 100000 in
theorem w_X11_isEdge_0 (X : Cx g RX11 cX11_isEdge 4 (some .boolean) p s m args meth c) (x1 : Int32) (x2 : Int32) (σ : St) {w : Int32} (KR : ∀ (H : Heap) (locs : List Loc) (ls : Array Slot) (pc : Nat), Wd g s σ H locs → decode cX11_isEdge pc = .ok (.ireturn, 1) → W p l e (rmm 1 21) s m args below meth c H locs 0 0 Q (F0 m pc ls [.int (w)])) {H : Heap} {locs : List Loc} {ls : Array Slot} (Y : Wd g s σ H locs) (hl : lv_has ls 4 [(0, .ref (g.2.2 (101))), (1, .int (x1)), (2, .int (x2))]) (h : f_X11_isEdge_0 x1 x2 σ = some w) : W p l e (rmm 1 21) s m args below meth c H locs 0 0 Q (F0 m 0 ls []) := by
  unfold f_X11_isEdge_0 at h
  refine lv_aload_n X.1 X.2.1 (dk T_X11_isEdge 0 rfl) rfl (lv_at hl 0 rfl) ?_
  refine gg X Y fl_X11_7 rfl rfl (dk T_X11_isEdge 1 rfl) ?_
  refine lv_iconst (v := 3) X.1 X.2.1 (dk T_X11_isEdge 2 rfl) ic_3 ?_
  refine lv_iload_n X.1 X.2.1 (dk T_X11_isEdge 3 rfl) rfl (lv_at hl 1 rfl) ?_
  refine lv_iadd X.1 X.2.1 (dk T_X11_isEdge 4 rfl) ?_
  obtain ⟨g1, h⟩ := gd h
  refine gil X Y rfl (inp g1) (dk T_X11_isEdge 5 rfl) ?_
  refine lv_istore_n (lv' := [(3, .int (σ 102 (3 + x1).toNatClampNeg)), (0, .ref (g.2.2 (101))), (1, .int (x1)), (2, .int (x2))]) X.1 X.2.1 (dk T_X11_isEdge 6 rfl) rfl hl (Nat.le_of_ble_eq_true rfl) rfl (fun ls hl => ?_)
  refine lv_iload_n X.1 X.2.1 (dk T_X11_isEdge 7 rfl) rfl (lv_at hl 3 rfl) ?_
  refine lv_iload_n X.1 X.2.1 (dk T_X11_isEdge 8 rfl) rfl (lv_at hl 0 rfl) ?_
  refine lv_icmp_lt (tgt := 39) X.1 X.2.1 (dk T_X11_isEdge 9 rfl) rfl (fun c2 => ?_) (fun c2 => ?_)
  · replace h := ipos c2 h
    exact w_X11_isEdge_j39 X σ KR Y (lv_sub hl [] rfl) h
  · replace h := ineg c2 h
    refine lv_iload_n X.1 X.2.1 (dk T_X11_isEdge 10 rfl) rfl (lv_at hl 3 rfl) ?_
    refine lv_iload_n X.1 X.2.1 (dk T_X11_isEdge 11 rfl) rfl (lv_at hl 0 rfl) ?_
    refine lv_iadd X.1 X.2.1 (dk T_X11_isEdge 12 rfl) ?_
    refine lv_aload_n X.1 X.2.1 (dk T_X11_isEdge 13 rfl) rfl (lv_at hl 1 rfl) ?_
    refine lv_iload_n X.1 X.2.1 (dk T_X11_isEdge 14 rfl) rfl (lv_at hl 2 rfl) ?_
    obtain ⟨q3, hq3, h⟩ := bs h
    refine gvI (rest := [.int (x2 + (σ 102 (3 + x1).toNatClampNeg))]) X Y (c_X11_cells x1 σ hq3) cb_X11_149 rfl hl.1 rfl rfl (Nat.le_of_ble_eq_true rfl) ⟨Nat.le_of_ble_eq_true rfl, Nat.le_of_ble_eq_true rfl⟩ (dk T_X11_isEdge 15 rfl) (fun H locs Y => ?_)
    refine lv_icmp_ge (tgt := 39) X.1 X.2.1 (dk T_X11_isEdge 16 rfl) rfl (fun c4 => ?_) (fun c4 => ?_)
    · replace h := ipos c4 h
      exact w_X11_isEdge_j39 X σ KR Y (lv_sub hl [] rfl) h
    · replace h := ineg c4 h
      refine lv_iload_n X.1 X.2.1 (dk T_X11_isEdge 17 rfl) rfl (lv_at hl 3 rfl) ?_
      refine lv_iload_n X.1 X.2.1 (dk T_X11_isEdge 18 rfl) rfl (lv_at hl 0 rfl) ?_
      obtain ⟨g5, h⟩ := gd h
      refine lv_irem X.1 X.2.1 (dk T_X11_isEdge 19 rfl) (nzp g5) ?_
      refine lv_if_eq (tgt := 39) X.1 X.2.1 (dk T_X11_isEdge 20 rfl) rfl (fun c6 => ?_) (fun c6 => ?_)
      · replace h := ipos c6 h
        exact w_X11_isEdge_j39 X σ KR Y (lv_sub hl [] rfl) h
      · replace h := ineg c6 h
        refine lv_iload_n X.1 X.2.1 (dk T_X11_isEdge 21 rfl) rfl (lv_at hl 3 rfl) ?_
        refine lv_iconst (v := 1) X.1 X.2.1 (dk T_X11_isEdge 22 rfl) ic_1 ?_
        refine lv_iadd X.1 X.2.1 (dk T_X11_isEdge 23 rfl) ?_
        refine lv_iload_n X.1 X.2.1 (dk T_X11_isEdge 24 rfl) rfl (lv_at hl 0 rfl) ?_
        obtain ⟨g7, h⟩ := gd h
        refine lv_irem X.1 X.2.1 (dk T_X11_isEdge 25 rfl) (nzp g7) ?_
        refine lv_if_ne (tgt := 43) X.1 X.2.1 (dk T_X11_isEdge 26 rfl) rfl (fun c8 => ?_) (fun c8 => ?_)
        · replace h := ineg c8 h
          refine lv_iconst (v := 0) X.1 X.2.1 (dk T_X11_isEdge 29 rfl) ic_0 ?_
          obtain rfl := Option.some.inj h
          exact KR _ _ _ _ Y (dk T_X11_isEdge 30 rfl)
        · replace h := ipos c8 h
          exact w_X11_isEdge_j39 X σ KR Y (lv_sub hl [] rfl) h
def f_X11_isEdge (x1 : Int32) (x2 : Int32) (σ : St) : Option (Int32) := bz (f_X11_isEdge_0 x1 x2 σ)
set_option maxHeartbeats 4000000 in
set_option maxRecDepth 100000 in
theorem c_X11_isEdge {l : Launch} {g : Geo} (x1 : Int32) (x2 : Int32) (σ : St) {w : Int32} (h : f_X11_isEdge x1 x2 σ = some w) : CtI l yX11_isEdge cX11_isEdge 4 (some .boolean) (rmm 1 21) g [.ref (g.2.2 (101)), .int (x1), .int (x2)] σ w σ := by
  obtain ⟨h, hz⟩ := bz_s h
  exact enI .boolean (by decide) rfl (bz_n hz) (Nat.le_of_ble_eq_true rfl) (fun p e s m args below meth c Q X Y ls hl KR => w_X11_isEdge_0 X x1 x2 σ KR Y hl h)
def I_X11_isBesideOutside : List (Nat × Instr × Nat) := [(0, .aload_n 0, 1), (1, .getfield 7, 3), (4, .iconst 3, 1), (5, .iload_n 1, 1), (6, .iadd, 1), (7, .iaload, 1), (8, .istore_n 3, 1), (9, .iload_n 2, 1), (10, .iload_n 3, 1), (11, .irem, 1), (12, .ifCond .le 14, 3), (15, .aload_n 0, 1), (16, .getfield 49, 3), (19, .iload_n 2, 1), (20, .iconst 1, 1), (21, .isub, 1), (22, .baload, 1), (23, .ifCond .ne 22, 3), (26, .iload_n 2, 1), (27, .iconst 1, 1), (28, .iadd, 1), (29, .iload_n 3, 1), (30, .irem, 1), (31, .ifCond .le 18, 3), (34, .aload_n 0, 1), (35, .getfield 49, 3), (38, .iload_n 2, 1), (39, .iconst 1, 1), (40, .iadd, 1), (41, .baload, 1), (42, .ifCond .eq 7, 3), (45, .iconst 1, 1), (46, .goto 4, 3), (49, .iconst 0, 1), (50, .istore 4, 2), (52, .iload 4, 2), (54, .ifCond .ne 41, 3), (57, .iload_n 2, 1), (58, .iload_n 3, 1), (59, .if_icmp .lt 14, 3), (62, .aload_n 0, 1), (63, .getfield 49, 3), (66, .iload_n 2, 1), (67, .iload_n 3, 1), (68, .isub, 1), (69, .baload, 1), (70, .ifCond .ne 25, 3), (73, .iload_n 2, 1), (74, .iload_n 3, 1), (75, .iadd, 1), (76, .aload_n 0, 1), (77, .iload_n 1, 1), (78, .invokevirtual 149, 3), (81, .if_icmp .ge 18, 3), (84, .aload_n 0, 1), (85, .getfield 49, 3), (88, .iload_n 2, 1), (89, .iload_n 3, 1), (90, .iadd, 1), (91, .baload, 1), (92, .ifCond .eq 7, 3), (95, .iconst 1, 1), (96, .goto 4, 3), (99, .iconst 0, 1), (100, .ireturn, 1)]
set_option maxRecDepth 100000 in
theorem T_X11_isBesideOutside : ∀ q ∈ I_X11_isBesideOutside, decode cX11_isBesideOutside q.1 = .ok (q.2.1, q.2.2) := by decide +kernel
def f_X11_isBesideOutside_j95 (σ : St) : Option (Int32) :=
  some 1
set_option maxHeartbeats 4000000 in
set_option maxRecDepth 100000 in
theorem w_X11_isBesideOutside_j95 (X : Cx g RX11 cX11_isBesideOutside 5 (some .boolean) p s m args meth c) (σ : St) {w : Int32} (KR : ∀ (H : Heap) (locs : List Loc) (ls : Array Slot) (pc : Nat), Wd g s σ H locs → decode cX11_isBesideOutside pc = .ok (.ireturn, 1) → W p l e (rmm 1 21) s m args below meth c H locs 0 0 Q (F0 m pc ls [.int (w)])) {H : Heap} {locs : List Loc} {ls : Array Slot} (Y : Wd g s σ H locs) (hl : lv_has ls 5 []) (h : f_X11_isBesideOutside_j95 σ = some w) : W p l e (rmm 1 21) s m args below meth c H locs 0 0 Q (F0 m 95 ls []) := by
  unfold f_X11_isBesideOutside_j95 at h
  refine lv_iconst (v := 1) X.1 X.2.1 (dk T_X11_isBesideOutside 61 rfl) ic_1 ?_
  refine lv_goto (tgt := 100) X.1 X.2.1 (dk T_X11_isBesideOutside 62 rfl) rfl ?_
  obtain rfl := Option.some.inj h
  exact KR _ _ _ _ Y (dk T_X11_isBesideOutside 64 rfl)
def f_X11_isBesideOutside_j73 (x1 : Int32) (x2 : Int32) (x3 : Int32) (σ : St) : Option (Int32) :=
  (f_X11_cells x1 σ).bind fun q8 => if q8 ≤ (x2 + x3) then some 0 else chk (inb (x2 + x3) 100) (if (σ 115 (x2 + x3).toNatClampNeg) = 0 then some 0 else f_X11_isBesideOutside_j95 σ)
set_option maxHeartbeats 4000000 in
set_option maxRecDepth 100000 in
theorem w_X11_isBesideOutside_j73 (X : Cx g RX11 cX11_isBesideOutside 5 (some .boolean) p s m args meth c) (x1 : Int32) (x2 : Int32) (x3 : Int32) (σ : St) {w : Int32} (KR : ∀ (H : Heap) (locs : List Loc) (ls : Array Slot) (pc : Nat), Wd g s σ H locs → decode cX11_isBesideOutside pc = .ok (.ireturn, 1) → W p l e (rmm 1 21) s m args below meth c H locs 0 0 Q (F0 m pc ls [.int (w)])) {H : Heap} {locs : List Loc} {ls : Array Slot} (Y : Wd g s σ H locs) (hl : lv_has ls 5 [(0, .ref (g.2.2 (101))), (1, .int (x1)), (2, .int (x2)), (3, .int (x3))]) (h : f_X11_isBesideOutside_j73 x1 x2 x3 σ = some w) : W p l e (rmm 1 21) s m args below meth c H locs 0 0 Q (F0 m 73 ls []) := by
  unfold f_X11_isBesideOutside_j73 at h
  refine lv_iload_n X.1 X.2.1 (dk T_X11_isBesideOutside 47 rfl) rfl (lv_at hl 2 rfl) ?_
  refine lv_iload_n X.1 X.2.1 (dk T_X11_isBesideOutside 48 rfl) rfl (lv_at hl 3 rfl) ?_
  refine lv_iadd X.1 X.2.1 (dk T_X11_isBesideOutside 49 rfl) ?_
  refine lv_aload_n X.1 X.2.1 (dk T_X11_isBesideOutside 50 rfl) rfl (lv_at hl 0 rfl) ?_
  refine lv_iload_n X.1 X.2.1 (dk T_X11_isBesideOutside 51 rfl) rfl (lv_at hl 1 rfl) ?_
  obtain ⟨q8, hq8, h⟩ := bs h
  refine gvI (rest := [.int (x2 + x3)]) X Y (c_X11_cells x1 σ hq8) cb_X11_149 rfl hl.1 rfl rfl (Nat.le_of_ble_eq_true rfl) ⟨Nat.le_of_ble_eq_true rfl, Nat.le_of_ble_eq_true rfl⟩ (dk T_X11_isBesideOutside 52 rfl) (fun H locs Y => ?_)
  refine lv_icmp_ge (tgt := 99) X.1 X.2.1 (dk T_X11_isBesideOutside 53 rfl) rfl (fun c9 => ?_) (fun c9 => ?_)
  · replace h := ipos c9 h
    refine lv_iconst (v := 0) X.1 X.2.1 (dk T_X11_isBesideOutside 63 rfl) ic_0 ?_
    obtain rfl := Option.some.inj h
    exact KR _ _ _ _ Y (dk T_X11_isBesideOutside 64 rfl)
  · replace h := ineg c9 h
    refine lv_aload_n X.1 X.2.1 (dk T_X11_isBesideOutside 54 rfl) rfl (lv_at hl 0 rfl) ?_
    refine gg X Y fl_X11_49 rfl rfl (dk T_X11_isBesideOutside 55 rfl) ?_
    refine lv_iload_n X.1 X.2.1 (dk T_X11_isBesideOutside 56 rfl) rfl (lv_at hl 2 rfl) ?_
    refine lv_iload_n X.1 X.2.1 (dk T_X11_isBesideOutside 57 rfl) rfl (lv_at hl 3 rfl) ?_
    refine lv_iadd X.1 X.2.1 (dk T_X11_isBesideOutside 58 rfl) ?_
    obtain ⟨g10, h⟩ := gd h
    refine gzl X Y rfl (inp g10) (dk T_X11_isBesideOutside 59 rfl) ?_
    refine lv_if_eq (tgt := 99) X.1 X.2.1 (dk T_X11_isBesideOutside 60 rfl) rfl (fun c11 => ?_) (fun c11 => ?_)
    · replace h := ipos c11 h
      refine lv_iconst (v := 0) X.1 X.2.1 (dk T_X11_isBesideOutside 63 rfl) ic_0 ?_
      obtain rfl := Option.some.inj h
      exact KR _ _ _ _ Y (dk T_X11_isBesideOutside 64 rfl)
    · replace h := ineg c11 h
      exact w_X11_isBesideOutside_j95 X σ KR Y (lv_sub hl [] rfl) h
def f_X11_isBesideOutside_j50 (x1 : Int32) (x2 : Int32) (x3 : Int32) (s0 : Int32) (σ : St) : Option (Int32) :=
  if s0 = 0 then if x2 < x3 then f_X11_isBesideOutside_j73 x1 x2 x3 σ else chk (inb (x2 - x3) 100) (if (σ 115 (x2 - x3).toNatClampNeg) = 0 then f_X11_isBesideOutside_j73 x1 x2 x3 σ else f_X11_isBesideOutside_j95 σ) else f_X11_isBesideOutside_j95 σ
set_option maxHeartbeats 4000000 in
set_option maxRecDepth 100000 in
theorem w_X11_isBesideOutside_j50 (X : Cx g RX11 cX11_isBesideOutside 5 (some .boolean) p s m args meth c) (x1 : Int32) (x2 : Int32) (x3 : Int32) (s0 : Int32) (σ : St) {w : Int32} (KR : ∀ (H : Heap) (locs : List Loc) (ls : Array Slot) (pc : Nat), Wd g s σ H locs → decode cX11_isBesideOutside pc = .ok (.ireturn, 1) → W p l e (rmm 1 21) s m args below meth c H locs 0 0 Q (F0 m pc ls [.int (w)])) {H : Heap} {locs : List Loc} {ls : Array Slot} (Y : Wd g s σ H locs) (hl : lv_has ls 5 [(0, .ref (g.2.2 (101))), (1, .int (x1)), (2, .int (x2)), (3, .int (x3))]) (h : f_X11_isBesideOutside_j50 x1 x2 x3 s0 σ = some w) : W p l e (rmm 1 21) s m args below meth c H locs 0 0 Q (F0 m 50 ls [.int (s0)]) := by
  unfold f_X11_isBesideOutside_j50 at h
  refine lv_istore (lv' := [(4, .int (s0)), (0, .ref (g.2.2 (101))), (1, .int (x1)), (2, .int (x2)), (3, .int (x3))]) X.1 X.2.1 (dk T_X11_isBesideOutside 34 rfl) hl (Nat.le_of_ble_eq_true rfl) rfl (fun ls hl => ?_)
  refine lv_iload X.1 X.2.1 (dk T_X11_isBesideOutside 35 rfl) (lv_at hl 0 rfl) ?_
  refine lv_if_ne (tgt := 95) X.1 X.2.1 (dk T_X11_isBesideOutside 36 rfl) rfl (fun c6 => ?_) (fun c6 => ?_)
  · replace h := ineg c6 h
    exact w_X11_isBesideOutside_j95 X σ KR Y (lv_sub hl [] rfl) h
  · replace h := ipos c6 h
    refine lv_iload_n X.1 X.2.1 (dk T_X11_isBesideOutside 37 rfl) rfl (lv_at hl 3 rfl) ?_
    refine lv_iload_n X.1 X.2.1 (dk T_X11_isBesideOutside 38 rfl) rfl (lv_at hl 4 rfl) ?_
    refine lv_icmp_lt (tgt := 73) X.1 X.2.1 (dk T_X11_isBesideOutside 39 rfl) rfl (fun c7 => ?_) (fun c7 => ?_)
    · replace h := ipos c7 h
      exact w_X11_isBesideOutside_j73 X x1 x2 x3 σ KR Y (lv_sub hl [1, 2, 3, 4] rfl) h
    · replace h := ineg c7 h
      refine lv_aload_n X.1 X.2.1 (dk T_X11_isBesideOutside 40 rfl) rfl (lv_at hl 1 rfl) ?_
      refine gg X Y fl_X11_49 rfl rfl (dk T_X11_isBesideOutside 41 rfl) ?_
      refine lv_iload_n X.1 X.2.1 (dk T_X11_isBesideOutside 42 rfl) rfl (lv_at hl 3 rfl) ?_
      refine lv_iload_n X.1 X.2.1 (dk T_X11_isBesideOutside 43 rfl) rfl (lv_at hl 4 rfl) ?_
      refine lv_isub X.1 X.2.1 (dk T_X11_isBesideOutside 44 rfl) ?_
      obtain ⟨g12, h⟩ := gd h
      refine gzl X Y rfl (inp g12) (dk T_X11_isBesideOutside 45 rfl) ?_
      refine lv_if_ne (tgt := 95) X.1 X.2.1 (dk T_X11_isBesideOutside 46 rfl) rfl (fun c13 => ?_) (fun c13 => ?_)
      · replace h := ineg c13 h
        exact w_X11_isBesideOutside_j95 X σ KR Y (lv_sub hl [] rfl) h
      · replace h := ipos c13 h
        exact w_X11_isBesideOutside_j73 X x1 x2 x3 σ KR Y (lv_sub hl [1, 2, 3, 4] rfl) h
def f_X11_isBesideOutside_j49 (x1 : Int32) (x2 : Int32) (x3 : Int32) (σ : St) : Option (Int32) :=
  f_X11_isBesideOutside_j50 x1 x2 x3 0 σ
set_option maxHeartbeats 4000000 in
set_option maxRecDepth 100000 in
theorem w_X11_isBesideOutside_j49 (X : Cx g RX11 cX11_isBesideOutside 5 (some .boolean) p s m args meth c) (x1 : Int32) (x2 : Int32) (x3 : Int32) (σ : St) {w : Int32} (KR : ∀ (H : Heap) (locs : List Loc) (ls : Array Slot) (pc : Nat), Wd g s σ H locs → decode cX11_isBesideOutside pc = .ok (.ireturn, 1) → W p l e (rmm 1 21) s m args below meth c H locs 0 0 Q (F0 m pc ls [.int (w)])) {H : Heap} {locs : List Loc} {ls : Array Slot} (Y : Wd g s σ H locs) (hl : lv_has ls 5 [(0, .ref (g.2.2 (101))), (1, .int (x1)), (2, .int (x2)), (3, .int (x3))]) (h : f_X11_isBesideOutside_j49 x1 x2 x3 σ = some w) : W p l e (rmm 1 21) s m args below meth c H locs 0 0 Q (F0 m 49 ls []) := by
  unfold f_X11_isBesideOutside_j49 at h
  refine lv_iconst (v := 0) X.1 X.2.1 (dk T_X11_isBesideOutside 33 rfl) ic_0 ?_
  exact w_X11_isBesideOutside_j50 X x1 x2 x3 0 σ KR Y (lv_sub hl [0, 1, 2, 3] rfl) h
def f_X11_isBesideOutside_j45 (x1 : Int32) (x2 : Int32) (x3 : Int32) (σ : St) : Option (Int32) :=
  f_X11_isBesideOutside_j50 x1 x2 x3 1 σ
set_option maxHeartbeats 4000000 in
set_option maxRecDepth 100000 in
theorem w_X11_isBesideOutside_j45 (X : Cx g RX11 cX11_isBesideOutside 5 (some .boolean) p s m args meth c) (x1 : Int32) (x2 : Int32) (x3 : Int32) (σ : St) {w : Int32} (KR : ∀ (H : Heap) (locs : List Loc) (ls : Array Slot) (pc : Nat), Wd g s σ H locs → decode cX11_isBesideOutside pc = .ok (.ireturn, 1) → W p l e (rmm 1 21) s m args below meth c H locs 0 0 Q (F0 m pc ls [.int (w)])) {H : Heap} {locs : List Loc} {ls : Array Slot} (Y : Wd g s σ H locs) (hl : lv_has ls 5 [(0, .ref (g.2.2 (101))), (1, .int (x1)), (2, .int (x2)), (3, .int (x3))]) (h : f_X11_isBesideOutside_j45 x1 x2 x3 σ = some w) : W p l e (rmm 1 21) s m args below meth c H locs 0 0 Q (F0 m 45 ls []) := by
  unfold f_X11_isBesideOutside_j45 at h
  refine lv_iconst (v := 1) X.1 X.2.1 (dk T_X11_isBesideOutside 31 rfl) ic_1 ?_
  refine lv_goto (tgt := 50) X.1 X.2.1 (dk T_X11_isBesideOutside 32 rfl) rfl ?_
  exact w_X11_isBesideOutside_j50 X x1 x2 x3 1 σ KR Y (lv_sub hl [0, 1, 2, 3] rfl) h
def f_X11_isBesideOutside_j26 (x1 : Int32) (x2 : Int32) (x3 : Int32) (σ : St) : Option (Int32) :=
  chk (nz x3) (if ((x2 + 1) - (x2 + 1) / x3 * x3) ≤ 0 then f_X11_isBesideOutside_j49 x1 x2 x3 σ else chk (inb (x2 + 1) 100) (if (σ 115 (x2 + 1).toNatClampNeg) = 0 then f_X11_isBesideOutside_j49 x1 x2 x3 σ else f_X11_isBesideOutside_j45 x1 x2 x3 σ))
set_option maxHeartbeats 4000000 in
set_option maxRecDepth 100000 in
theorem w_X11_isBesideOutside_j26 (X : Cx g RX11 cX11_isBesideOutside 5 (some .boolean) p s m args meth c) (x1 : Int32) (x2 : Int32) (x3 : Int32) (σ : St) {w : Int32} (KR : ∀ (H : Heap) (locs : List Loc) (ls : Array Slot) (pc : Nat), Wd g s σ H locs → decode cX11_isBesideOutside pc = .ok (.ireturn, 1) → W p l e (rmm 1 21) s m args below meth c H locs 0 0 Q (F0 m pc ls [.int (w)])) {H : Heap} {locs : List Loc} {ls : Array Slot} (Y : Wd g s σ H locs) (hl : lv_has ls 5 [(0, .ref (g.2.2 (101))), (1, .int (x1)), (2, .int (x2)), (3, .int (x3))]) (h : f_X11_isBesideOutside_j26 x1 x2 x3 σ = some w) : W p l e (rmm 1 21) s m args below meth c H locs 0 0 Q (F0 m 26 ls []) := by
  unfold f_X11_isBesideOutside_j26 at h
  refine lv_iload_n X.1 X.2.1 (dk T_X11_isBesideOutside 18 rfl) rfl (lv_at hl 2 rfl) ?_
  refine lv_iconst (v := 1) X.1 X.2.1 (dk T_X11_isBesideOutside 19 rfl) ic_1 ?_
  refine lv_iadd X.1 X.2.1 (dk T_X11_isBesideOutside 20 rfl) ?_
  refine lv_iload_n X.1 X.2.1 (dk T_X11_isBesideOutside 21 rfl) rfl (lv_at hl 3 rfl) ?_
  obtain ⟨g4, h⟩ := gd h
  refine lv_irem X.1 X.2.1 (dk T_X11_isBesideOutside 22 rfl) (nzp g4) ?_
  refine lv_if_le (tgt := 49) X.1 X.2.1 (dk T_X11_isBesideOutside 23 rfl) rfl (fun c5 => ?_) (fun c5 => ?_)
  · replace h := ipos c5 h
    exact w_X11_isBesideOutside_j49 X x1 x2 x3 σ KR Y (lv_sub hl [0, 1, 2, 3] rfl) h
  · replace h := ineg c5 h
    refine lv_aload_n X.1 X.2.1 (dk T_X11_isBesideOutside 24 rfl) rfl (lv_at hl 0 rfl) ?_
    refine gg X Y fl_X11_49 rfl rfl (dk T_X11_isBesideOutside 25 rfl) ?_
    refine lv_iload_n X.1 X.2.1 (dk T_X11_isBesideOutside 26 rfl) rfl (lv_at hl 2 rfl) ?_
    refine lv_iconst (v := 1) X.1 X.2.1 (dk T_X11_isBesideOutside 27 rfl) ic_1 ?_
    refine lv_iadd X.1 X.2.1 (dk T_X11_isBesideOutside 28 rfl) ?_
    obtain ⟨g14, h⟩ := gd h
    refine gzl X Y rfl (inp g14) (dk T_X11_isBesideOutside 29 rfl) ?_
    refine lv_if_eq (tgt := 49) X.1 X.2.1 (dk T_X11_isBesideOutside 30 rfl) rfl (fun c15 => ?_) (fun c15 => ?_)
    · replace h := ipos c15 h
      exact w_X11_isBesideOutside_j49 X x1 x2 x3 σ KR Y (lv_sub hl [0, 1, 2, 3] rfl) h
    · replace h := ineg c15 h
      exact w_X11_isBesideOutside_j45 X x1 x2 x3 σ KR Y (lv_sub hl [0, 1, 2, 3] rfl) h
def f_X11_isBesideOutside_0 (x1 : Int32) (x2 : Int32) (σ : St) : Option (Int32) :=
  chk (inb (3 + x1) 761) (chk (nz (σ 102 (3 + x1).toNatClampNeg)) (if (x2 - x2 / (σ 102 (3 + x1).toNatClampNeg) * (σ 102 (3 + x1).toNatClampNeg)) ≤ 0 then f_X11_isBesideOutside_j26 x1 x2 (σ 102 (3 + x1).toNatClampNeg) σ else chk (inb (x2 - 1) 100) (if (σ 115 (x2 - 1).toNatClampNeg) = 0 then f_X11_isBesideOutside_j26 x1 x2 (σ 102 (3 + x1).toNatClampNeg) σ else f_X11_isBesideOutside_j45 x1 x2 (σ 102 (3 + x1).toNatClampNeg) σ)))
set_option maxHeartbeats 4000000 in
set_option maxRecDepth 100000 in
theorem w_X11_isBesideOutside_0 (X : Cx g RX11 cX11_isBesideOutside 5 (some .boolean) p s m args meth c) (x1 : Int32) (x2 : Int32) (σ : St) {w : Int32} (KR : ∀ (H : Heap) (locs : List Loc) (ls : Array Slot) (pc : Nat), Wd g s σ H locs → decode cX11_isBesideOutside pc = .ok (.ireturn, 1) → W p l e (rmm 1 21) s m args below meth c H locs 0 0 Q (F0 m pc ls [.int (w)])) {H : Heap} {locs : List Loc} {ls : Array Slot} (Y : Wd g s σ H locs) (hl : lv_has ls 5 [(0, .ref (g.2.2 (101))), (1, .int (x1)), (2, .int (x2))]) (h : f_X11_isBesideOutside_0 x1 x2 σ = some w) : W p l e (rmm 1 21) s m args below meth c H locs 0 0 Q (F0 m 0 ls []) := by
  unfold f_X11_isBesideOutside_0 at h
  refine lv_aload_n X.1 X.2.1 (dk T_X11_isBesideOutside 0 rfl) rfl (lv_at hl 0 rfl) ?_
  refine gg X Y fl_X11_7 rfl rfl (dk T_X11_isBesideOutside 1 rfl) ?_
  refine lv_iconst (v := 3) X.1 X.2.1 (dk T_X11_isBesideOutside 2 rfl) ic_3 ?_
  refine lv_iload_n X.1 X.2.1 (dk T_X11_isBesideOutside 3 rfl) rfl (lv_at hl 1 rfl) ?_
  refine lv_iadd X.1 X.2.1 (dk T_X11_isBesideOutside 4 rfl) ?_
  obtain ⟨g1, h⟩ := gd h
  refine gil X Y rfl (inp g1) (dk T_X11_isBesideOutside 5 rfl) ?_
  refine lv_istore_n (lv' := [(3, .int (σ 102 (3 + x1).toNatClampNeg)), (0, .ref (g.2.2 (101))), (1, .int (x1)), (2, .int (x2))]) X.1 X.2.1 (dk T_X11_isBesideOutside 6 rfl) rfl hl (Nat.le_of_ble_eq_true rfl) rfl (fun ls hl => ?_)
  refine lv_iload_n X.1 X.2.1 (dk T_X11_isBesideOutside 7 rfl) rfl (lv_at hl 3 rfl) ?_
  refine lv_iload_n X.1 X.2.1 (dk T_X11_isBesideOutside 8 rfl) rfl (lv_at hl 0 rfl) ?_
  obtain ⟨g2, h⟩ := gd h
  refine lv_irem X.1 X.2.1 (dk T_X11_isBesideOutside 9 rfl) (nzp g2) ?_
  refine lv_if_le (tgt := 26) X.1 X.2.1 (dk T_X11_isBesideOutside 10 rfl) rfl (fun c3 => ?_) (fun c3 => ?_)
  · replace h := ipos c3 h
    exact w_X11_isBesideOutside_j26 X x1 x2 (σ 102 (3 + x1).toNatClampNeg) σ KR Y (lv_sub hl [1, 2, 3, 0] rfl) h
  · replace h := ineg c3 h
    refine lv_aload_n X.1 X.2.1 (dk T_X11_isBesideOutside 11 rfl) rfl (lv_at hl 1 rfl) ?_
    refine gg X Y fl_X11_49 rfl rfl (dk T_X11_isBesideOutside 12 rfl) ?_
    refine lv_iload_n X.1 X.2.1 (dk T_X11_isBesideOutside 13 rfl) rfl (lv_at hl 3 rfl) ?_
    refine lv_iconst (v := 1) X.1 X.2.1 (dk T_X11_isBesideOutside 14 rfl) ic_1 ?_
    refine lv_isub X.1 X.2.1 (dk T_X11_isBesideOutside 15 rfl) ?_
    obtain ⟨g16, h⟩ := gd h
    refine gzl X Y rfl (inp g16) (dk T_X11_isBesideOutside 16 rfl) ?_
    refine lv_if_ne (tgt := 45) X.1 X.2.1 (dk T_X11_isBesideOutside 17 rfl) rfl (fun c17 => ?_) (fun c17 => ?_)
    · replace h := ineg c17 h
      exact w_X11_isBesideOutside_j45 X x1 x2 (σ 102 (3 + x1).toNatClampNeg) σ KR Y (lv_sub hl [1, 2, 3, 0] rfl) h
    · replace h := ipos c17 h
      exact w_X11_isBesideOutside_j26 X x1 x2 (σ 102 (3 + x1).toNatClampNeg) σ KR Y (lv_sub hl [1, 2, 3, 0] rfl) h
def f_X11_isBesideOutside (x1 : Int32) (x2 : Int32) (σ : St) : Option (Int32) := bz (f_X11_isBesideOutside_0 x1 x2 σ)
set_option maxHeartbeats 4000000 in
set_option maxRecDepth 100000 in
theorem c_X11_isBesideOutside {l : Launch} {g : Geo} (x1 : Int32) (x2 : Int32) (σ : St) {w : Int32} (h : f_X11_isBesideOutside x1 x2 σ = some w) : CtI l yX11_isBesideOutside cX11_isBesideOutside 5 (some .boolean) (rmm 1 21) g [.ref (g.2.2 (101)), .int (x1), .int (x2)] σ w σ := by
  obtain ⟨h, hz⟩ := bz_s h
  exact enI .boolean (by decide) rfl (bz_n hz) (Nat.le_of_ble_eq_true rfl) (fun p e s m args below meth c Q X Y ls hl KR => w_X11_isBesideOutside_0 X x1 x2 σ KR Y hl h)
def I_X11_isWithin : List (Nat × Instr × Nat) := [(0, .aload_n 0, 1), (1, .getfield 7, 3), (4, .sipush 681, 3), (7, .iload_n 1, 1), (8, .iadd, 1), (9, .iaload, 1), (10, .istore_n 3, 1), (11, .iload_n 1, 1), (12, .iload_n 2, 1), (13, .if_icmp .eq 17, 3), (16, .aload_n 0, 1), (17, .getfield 7, 3), (20, .sipush 681, 3), (23, .iload_n 2, 1), (24, .iadd, 1), (25, .iaload, 1), (26, .iload_n 3, 1), (27, .if_icmp .eq 5, 3), (30, .iconst 0, 1), (31, .ireturn, 1), (32, .iconst 0, 1), (33, .istore 4, 2), (35, .iload 4, 2), (37, .bipush 100, 2), (39, .if_icmp .ge 17, 3), (42, .aload_n 0, 1), (43, .getfield 49, 3), (46, .iload 4, 2), (48, .iconst 0, 1), (49, .bastore, 1), (50, .iinc 4 1, 3), (53, .goto (-18), 3), (56, .iconst 1, 1), (57, .istore 4, 2), (59, .iload 4, 2), (61, .ifCond .eq 120, 3), (64, .iconst 0, 1), (65, .istore 4, 2), (67, .iconst 0, 1), (68, .istore 5, 2), (70, .iload 5, 2), (72, .aload_n 0, 1), (73, .iload_n 3, 1), (74, .invokevirtual 149, 3), (77, .if_icmp .ge 101, 3), (80, .aload_n 0, 1), (81, .getfield 49, 3), (84, .iload 5, 2), (86, .baload, 1), (87, .ifCond .ne 38, 3), (90, .aload_n 0, 1), (91, .getfield 37, 3), (94, .iload 5, 2), (96, .iaload, 1), (97, .iload_n 2, 1), (98, .if_icmp .eq 27, 3), (101, .aload_n 0, 1), (102, .iload_n 3, 1), (103, .iload 5, 2), (105, .invokevirtual 227, 3), (108, .ifCond .ne 13, 3), (111, .aload_n 0, 1), (112, .iload_n 3, 1), (113, .iload 5, 2), (115, .invokevirtual 230, 3), (118, .ifCond .eq 7, 3), (121, .iconst 1, 1), (122, .goto 4, 3), (125, .iconst 0, 1), (126, .istore 6, 2), (128, .aload_n 0, 1), (129, .getfield 49, 3), (132, .iload 5, 2), (134, .aload_n 0, 1), (135, .getfield 49, 3), (138, .iload 5, 2), (140, .baload, 1), (141, .ifCond .ne 8, 3), (144, .iload 6, 2), (146, .ifCond .eq 7, 3), (149, .iconst 1, 1), (150, .goto 4, 3), (153, .iconst 0, 1), (154, .bastore, 1), (155, .iload 4, 2), (157, .ifCond .ne 8, 3), (160, .iload 6, 2), (162, .ifCond .eq 7, 3), (165, .iconst 1, 1), (166, .goto 4, 3), (169, .iconst 0, 1), (170, .istore 4, 2), (172, .iinc 5 1, 3), (175, .goto (-105), 3), (178, .goto (-119), 3), (181, .aload_n 0, 1), (182, .getfield 49, 3), (185, .aload_n 0, 1), (186, .iload_n 1, 1), (187, .invokevirtual 233, 3), (190, .baload, 1), (191, .ifCond .ne 7, 3), (194, .iconst 1, 1), (195, .goto 4, 3), (198, .iconst 0, 1), (199, .ireturn, 1)]
set_option maxRecDepth 100000 in
theorem T_X11_isWithin : ∀ q ∈ I_X11_isWithin, decode cX11_isWithin q.1 = .ok (q.2.1, q.2.2) := by decide +kernel
def f_X11_isWithin_l35 (x1 : Int32) (x2 : Int32) (x3 : Int32) (z : Int32 × St) : Option ((Int32 × St) ⊕ (St)) :=
  if 100 ≤ z.1 then some (.inr z.2) else chk (inb z.1 100) (some (.inl (z.1 + 1, up z.2 115 z.1.toNatClampNeg (vp_nar .boolean 0))))
set_option maxHeartbeats 4000000 in
set_option maxRecDepth 100000 in
theorem w_X11_isWithin_l35 (X : Cx g RX11 cX11_isWithin 7 (some .boolean) p s m args meth c) (x1 : Int32) (x2 : Int32) (x3 : Int32) (σ : St) {r : St} (KX0 : ∀ (v : St), r = v → ∀ (H : Heap) (locs : List Loc) (ls : Array Slot), Wd g s v H locs → lv_has ls 7 [(0, .ref (g.2.2 (101))), (1, .int (x1)), (2, .int (x2)), (3, .int (x3))] → W p l e (rmm 4 94) s m args below meth c H locs 0 0 Q (F0 m 56 ls [])) : ∀ (n : Nat) (z : Int32 × St) {H : Heap} {locs : List Loc} {ls : Array Slot}, Wd g s z.2 H locs → lv_has ls 7 [(0, .ref (g.2.2 (101))), (1, .int (x1)), (2, .int (x2)), (3, .int (x3)), (4, .int (z.1))] → lp (f_X11_isWithin_l35 x1 x2 x3) n z = some r → W p l e (rmm 4 94) s m args below meth c H locs 0 0 Q (F0 m 35 ls []) := by
  intro n
  induction n with
  | zero => intro z H locs ls Y hl h; cases h
  | succ n ih =>
    intro z H locs ls Y hl h
    obtain ⟨w, h, hw⟩ := lps h
    have KB : ∀ (v0_ : Int32) (v1_ : St), w = .inl (v0_, v1_) → ∀ (H : Heap) (locs : List Loc) (ls : Array Slot), Wd g s v1_ H locs → lv_has ls 7 [(0, .ref (g.2.2 (101))), (1, .int (x1)), (2, .int (x2)), (3, .int (x3)), (4, .int (v0_))] → W p l e (rmm 4 94) s m args below meth c H locs 0 0 Q (F0 m 35 ls []) := fun v0_ v1_ e H locs ls Y hl => ih (v0_, v1_) Y hl (lpl hw e)
    have KX0 := fun (v : St) (e : w = .inr v) => KX0 v (lpr hw e)
    unfold f_X11_isWithin_l35 at h
    refine lv_iload X.1 X.2.1 (dk T_X11_isWithin 22 rfl) (lv_at hl 4 rfl) ?_
    refine lv_bipush (v := 100) X.1 X.2.1 (dk T_X11_isWithin 23 rfl) bp_100 ?_
    refine lv_icmp_ge (tgt := 56) X.1 X.2.1 (dk T_X11_isWithin 24 rfl) rfl (fun c5 => ?_) (fun c5 => ?_)
    · replace h := ipos c5 h
      exact KX0 z.2 (Option.some.inj h).symm _ _ _ Y (lv_sub hl [0, 1, 2, 3] rfl)
    · replace h := ineg c5 h
      refine lv_aload_n X.1 X.2.1 (dk T_X11_isWithin 25 rfl) rfl (lv_at hl 0 rfl) ?_
      refine gg X Y fl_X11_49 rfl rfl (dk T_X11_isWithin 26 rfl) ?_
      refine lv_iload X.1 X.2.1 (dk T_X11_isWithin 27 rfl) (lv_at hl 4 rfl) ?_
      refine lv_iconst (v := 0) X.1 X.2.1 (dk T_X11_isWithin 28 rfl) ic_0 ?_
      obtain ⟨g6, h⟩ := gd h
      refine gzs X Y rfl (inp g6) (dk T_X11_isWithin 29 rfl) (fun H locs Y => ?_)
      refine lv_iinc (v := z.1 + 1) (lv' := [(4, .int (z.1 + 1)), (0, .ref (g.2.2 (101))), (1, .int (x1)), (2, .int (x2)), (3, .int (x3))]) X.1 X.2.1 (dk T_X11_isWithin 30 rfl) hl (k := 4) rfl (icx ic_1) (Nat.le_of_ble_eq_true rfl) rfl (fun ls hl => ?_)
      refine lv_goto (tgt := 35) X.1 X.2.1 (dk T_X11_isWithin 31 rfl) rfl ?_
      exact KB (z.1 + 1) (up z.2 115 z.1.toNatClampNeg (vp_nar .boolean 0)) (Option.some.inj h).symm _ _ _ Y (lv_sub hl [1, 2, 3, 4, 0] rfl)
def f_X11_isWithin_j170 (x1 : Int32) (x2 : Int32) (x3 : Int32) (x5 : Int32) (s0 : Int32) (σ : St) : Option ((Int32 × Int32 × St) ⊕ (Int32 × St)) :=
  some (.inl (s0, x5 + 1, σ))
set_option maxHeartbeats 4000000 in
set_option maxRecDepth 100000 in
theorem w_X11_isWithin_j170 (X : Cx g RX11 cX11_isWithin 7 (some .boolean) p s m args meth c) (x1 : Int32) (x2 : Int32) (x3 : Int32) (x5 : Int32) (s0 : Int32) (σ : St) {w : (Int32 × Int32 × St) ⊕ (Int32 × St)} (KB : ∀ (v0_ : Int32) (v1_ : Int32) (v2_ : St), w = .inl (v0_, v1_, v2_) → ∀ (H : Heap) (locs : List Loc) (ls : Array Slot), Wd g s v2_ H locs → lv_has ls 7 [(0, .ref (g.2.2 (101))), (1, .int (x1)), (2, .int (x2)), (3, .int (x3)), (4, .int (v0_)), (5, .int (v1_))] → W p l e (rmm 4 94) s m args below meth c H locs 0 0 Q (F0 m 70 ls [])) (KX0 : ∀ (v0_ : Int32) (v1_ : St), w = .inr (v0_, v1_) → ∀ (H : Heap) (locs : List Loc) (ls : Array Slot), Wd g s v1_ H locs → lv_has ls 7 [(0, .ref (g.2.2 (101))), (1, .int (x1)), (2, .int (x2)), (3, .int (x3)), (4, .int (v0_))] → W p l e (rmm 4 94) s m args below meth c H locs 0 0 Q (F0 m 178 ls [])) {H : Heap} {locs : List Loc} {ls : Array Slot} (Y : Wd g s σ H locs) (hl : lv_has ls 7 [(0, .ref (g.2.2 (101))), (1, .int (x1)), (2, .int (x2)), (3, .int (x3)), (5, .int (x5))]) (h : f_X11_isWithin_j170 x1 x2 x3 x5 s0 σ = some w) : W p l e (rmm 4 94) s m args below meth c H locs 0 0 Q (F0 m 170 ls [.int (s0)]) := by
  unfold f_X11_isWithin_j170 at h
  refine lv_istore (lv' := [(4, .int (s0)), (0, .ref (g.2.2 (101))), (1, .int (x1)), (2, .int (x2)), (3, .int (x3)), (5, .int (x5))]) X.1 X.2.1 (dk T_X11_isWithin 91 rfl) hl (Nat.le_of_ble_eq_true rfl) rfl (fun ls hl => ?_)
  refine lv_iinc (v := x5 + 1) (lv' := [(5, .int (x5 + 1)), (4, .int (s0)), (0, .ref (g.2.2 (101))), (1, .int (x1)), (2, .int (x2)), (3, .int (x3))]) X.1 X.2.1 (dk T_X11_isWithin 92 rfl) hl (k := 5) rfl (icx ic_1) (Nat.le_of_ble_eq_true rfl) rfl (fun ls hl => ?_)
  refine lv_goto (tgt := 70) X.1 X.2.1 (dk T_X11_isWithin 93 rfl) rfl ?_
  exact KB s0 (x5 + 1) σ (Option.some.inj h).symm _ _ _ Y (lv_sub hl [2, 3, 4, 5, 1, 0] rfl)
def f_X11_isWithin_j165 (x1 : Int32) (x2 : Int32) (x3 : Int32) (x5 : Int32) (σ : St) : Option ((Int32 × Int32 × St) ⊕ (Int32 × St)) :=
  f_X11_isWithin_j170 x1 x2 x3 x5 1 σ
set_option maxHeartbeats 4000000 in
set_option maxRecDepth 100000 in
theorem w_X11_isWithin_j165 (X : Cx g RX11 cX11_isWithin 7 (some .boolean) p s m args meth c) (x1 : Int32) (x2 : Int32) (x3 : Int32) (x5 : Int32) (σ : St) {w : (Int32 × Int32 × St) ⊕ (Int32 × St)} (KB : ∀ (v0_ : Int32) (v1_ : Int32) (v2_ : St), w = .inl (v0_, v1_, v2_) → ∀ (H : Heap) (locs : List Loc) (ls : Array Slot), Wd g s v2_ H locs → lv_has ls 7 [(0, .ref (g.2.2 (101))), (1, .int (x1)), (2, .int (x2)), (3, .int (x3)), (4, .int (v0_)), (5, .int (v1_))] → W p l e (rmm 4 94) s m args below meth c H locs 0 0 Q (F0 m 70 ls [])) (KX0 : ∀ (v0_ : Int32) (v1_ : St), w = .inr (v0_, v1_) → ∀ (H : Heap) (locs : List Loc) (ls : Array Slot), Wd g s v1_ H locs → lv_has ls 7 [(0, .ref (g.2.2 (101))), (1, .int (x1)), (2, .int (x2)), (3, .int (x3)), (4, .int (v0_))] → W p l e (rmm 4 94) s m args below meth c H locs 0 0 Q (F0 m 178 ls [])) {H : Heap} {locs : List Loc} {ls : Array Slot} (Y : Wd g s σ H locs) (hl : lv_has ls 7 [(0, .ref (g.2.2 (101))), (1, .int (x1)), (2, .int (x2)), (3, .int (x3)), (5, .int (x5))]) (h : f_X11_isWithin_j165 x1 x2 x3 x5 σ = some w) : W p l e (rmm 4 94) s m args below meth c H locs 0 0 Q (F0 m 165 ls []) := by
  unfold f_X11_isWithin_j165 at h
  refine lv_iconst (v := 1) X.1 X.2.1 (dk T_X11_isWithin 88 rfl) ic_1 ?_
  refine lv_goto (tgt := 170) X.1 X.2.1 (dk T_X11_isWithin 89 rfl) rfl ?_
  exact w_X11_isWithin_j170 X x1 x2 x3 x5 1 σ KB KX0 Y (lv_sub hl [0, 1, 2, 3, 4] rfl) h
def f_X11_isWithin_j154 (x1 : Int32) (x2 : Int32) (x3 : Int32) (x4 : Int32) (x5 : Int32) (x6 : Int32) (s0 : Int32) (s1 : Int32) (σ : St) : Option ((Int32 × Int32 × St) ⊕ (Int32 × St)) :=
  chk (inb s1 100) (if x4 = 0 then if x6 = 0 then f_X11_isWithin_j170 x1 x2 x3 x5 0 (up σ 115 s1.toNatClampNeg (vp_nar .boolean s0)) else f_X11_isWithin_j165 x1 x2 x3 x5 (up σ 115 s1.toNatClampNeg (vp_nar .boolean s0)) else f_X11_isWithin_j165 x1 x2 x3 x5 (up σ 115 s1.toNatClampNeg (vp_nar .boolean s0)))
set_option maxHeartbeats 4000000 in
set_option maxRecDepth 100000 in
theorem w_X11_isWithin_j154 (X : Cx g RX11 cX11_isWithin 7 (some .boolean) p s m args meth c) (x1 : Int32) (x2 : Int32) (x3 : Int32) (x4 : Int32) (x5 : Int32) (x6 : Int32) (s0 : Int32) (s1 : Int32) (σ : St) {w : (Int32 × Int32 × St) ⊕ (Int32 × St)} (KB : ∀ (v0_ : Int32) (v1_ : Int32) (v2_ : St), w = .inl (v0_, v1_, v2_) → ∀ (H : Heap) (locs : List Loc) (ls : Array Slot), Wd g s v2_ H locs → lv_has ls 7 [(0, .ref (g.2.2 (101))), (1, .int (x1)), (2, .int (x2)), (3, .int (x3)), (4, .int (v0_)), (5, .int (v1_))] → W p l e (rmm 4 94) s m args below meth c H locs 0 0 Q (F0 m 70 ls [])) (KX0 : ∀ (v0_ : Int32) (v1_ : St), w = .inr (v0_, v1_) → ∀ (H : Heap) (locs : List Loc) (ls : Array Slot), Wd g s v1_ H locs → lv_has ls 7 [(0, .ref (g.2.2 (101))), (1, .int (x1)), (2, .int (x2)), (3, .int (x3)), (4, .int (v0_))] → W p l e (rmm 4 94) s m args below meth c H locs 0 0 Q (F0 m 178 ls [])) {H : Heap} {locs : List Loc} {ls : Array Slot} (Y : Wd g s σ H locs) (hl : lv_has ls 7 [(0, .ref (g.2.2 (101))), (1, .int (x1)), (2, .int (x2)), (3, .int (x3)), (4, .int (x4)), (5, .int (x5)), (6, .int (x6))]) (h : f_X11_isWithin_j154 x1 x2 x3 x4 x5 x6 s0 s1 σ = some w) : W p l e (rmm 4 94) s m args below meth c H locs 0 0 Q (F0 m 154 ls [.int (s0), .int (s1), .ref (g.2.2 (115))]) := by
  unfold f_X11_isWithin_j154 at h
  obtain ⟨g15, h⟩ := gd h
  refine gzs X Y rfl (inp g15) (dk T_X11_isWithin 83 rfl) (fun H locs Y => ?_)
  refine lv_iload X.1 X.2.1 (dk T_X11_isWithin 84 rfl) (lv_at hl 4 rfl) ?_
  refine lv_if_ne (tgt := 165) X.1 X.2.1 (dk T_X11_isWithin 85 rfl) rfl (fun c16 => ?_) (fun c16 => ?_)
  · replace h := ineg c16 h
    exact w_X11_isWithin_j165 X x1 x2 x3 x5 (up σ 115 s1.toNatClampNeg (vp_nar .boolean s0)) KB KX0 Y (lv_sub hl [0, 1, 2, 3, 5] rfl) h
  · replace h := ipos c16 h
    refine lv_iload X.1 X.2.1 (dk T_X11_isWithin 86 rfl) (lv_at hl 6 rfl) ?_
    refine lv_if_eq (tgt := 169) X.1 X.2.1 (dk T_X11_isWithin 87 rfl) rfl (fun c17 => ?_) (fun c17 => ?_)
    · replace h := ipos c17 h
      refine lv_iconst (v := 0) X.1 X.2.1 (dk T_X11_isWithin 90 rfl) ic_0 ?_
      exact w_X11_isWithin_j170 X x1 x2 x3 x5 0 (up σ 115 s1.toNatClampNeg (vp_nar .boolean s0)) KB KX0 Y (lv_sub hl [0, 1, 2, 3, 5] rfl) h
    · replace h := ineg c17 h
      exact w_X11_isWithin_j165 X x1 x2 x3 x5 (up σ 115 s1.toNatClampNeg (vp_nar .boolean s0)) KB KX0 Y (lv_sub hl [0, 1, 2, 3, 5] rfl) h
def f_X11_isWithin_j149 (x1 : Int32) (x2 : Int32) (x3 : Int32) (x4 : Int32) (x5 : Int32) (x6 : Int32) (s0 : Int32) (σ : St) : Option ((Int32 × Int32 × St) ⊕ (Int32 × St)) :=
  f_X11_isWithin_j154 x1 x2 x3 x4 x5 x6 1 s0 σ
set_option maxHeartbeats 4000000 in
set_option maxRecDepth 100000 in
theorem w_X11_isWithin_j149 (X : Cx g RX11 cX11_isWithin 7 (some .boolean) p s m args meth c) (x1 : Int32) (x2 : Int32) (x3 : Int32) (x4 : Int32) (x5 : Int32) (x6 : Int32) (s0 : Int32) (σ : St) {w : (Int32 × Int32 × St) ⊕ (Int32 × St)} (KB : ∀ (v0_ : Int32) (v1_ : Int32) (v2_ : St), w = .inl (v0_, v1_, v2_) → ∀ (H : Heap) (locs : List Loc) (ls : Array Slot), Wd g s v2_ H locs → lv_has ls 7 [(0, .ref (g.2.2 (101))), (1, .int (x1)), (2, .int (x2)), (3, .int (x3)), (4, .int (v0_)), (5, .int (v1_))] → W p l e (rmm 4 94) s m args below meth c H locs 0 0 Q (F0 m 70 ls [])) (KX0 : ∀ (v0_ : Int32) (v1_ : St), w = .inr (v0_, v1_) → ∀ (H : Heap) (locs : List Loc) (ls : Array Slot), Wd g s v1_ H locs → lv_has ls 7 [(0, .ref (g.2.2 (101))), (1, .int (x1)), (2, .int (x2)), (3, .int (x3)), (4, .int (v0_))] → W p l e (rmm 4 94) s m args below meth c H locs 0 0 Q (F0 m 178 ls [])) {H : Heap} {locs : List Loc} {ls : Array Slot} (Y : Wd g s σ H locs) (hl : lv_has ls 7 [(0, .ref (g.2.2 (101))), (1, .int (x1)), (2, .int (x2)), (3, .int (x3)), (4, .int (x4)), (5, .int (x5)), (6, .int (x6))]) (h : f_X11_isWithin_j149 x1 x2 x3 x4 x5 x6 s0 σ = some w) : W p l e (rmm 4 94) s m args below meth c H locs 0 0 Q (F0 m 149 ls [.int (s0), .ref (g.2.2 (115))]) := by
  unfold f_X11_isWithin_j149 at h
  refine lv_iconst (v := 1) X.1 X.2.1 (dk T_X11_isWithin 80 rfl) ic_1 ?_
  refine lv_goto (tgt := 154) X.1 X.2.1 (dk T_X11_isWithin 81 rfl) rfl ?_
  exact w_X11_isWithin_j154 X x1 x2 x3 x4 x5 x6 1 s0 σ KB KX0 Y (lv_sub hl [0, 1, 2, 3, 4, 5, 6] rfl) h
def f_X11_isWithin_j126 (x1 : Int32) (x2 : Int32) (x3 : Int32) (x4 : Int32) (x5 : Int32) (s0 : Int32) (σ : St) : Option ((Int32 × Int32 × St) ⊕ (Int32 × St)) :=
  chk (inb x5 100) (if (σ 115 x5.toNatClampNeg) = 0 then if s0 = 0 then f_X11_isWithin_j154 x1 x2 x3 x4 x5 s0 0 x5 σ else f_X11_isWithin_j149 x1 x2 x3 x4 x5 s0 x5 σ else f_X11_isWithin_j149 x1 x2 x3 x4 x5 s0 x5 σ)
set_option maxHeartbeats 4000000 in
set_option maxRecDepth 100000 in
theorem w_X11_isWithin_j126 (X : Cx g RX11 cX11_isWithin 7 (some .boolean) p s m args meth c) (x1 : Int32) (x2 : Int32) (x3 : Int32) (x4 : Int32) (x5 : Int32) (s0 : Int32) (σ : St) {w : (Int32 × Int32 × St) ⊕ (Int32 × St)} (KB : ∀ (v0_ : Int32) (v1_ : Int32) (v2_ : St), w = .inl (v0_, v1_, v2_) → ∀ (H : Heap) (locs : List Loc) (ls : Array Slot), Wd g s v2_ H locs → lv_has ls 7 [(0, .ref (g.2.2 (101))), (1, .int (x1)), (2, .int (x2)), (3, .int (x3)), (4, .int (v0_)), (5, .int (v1_))] → W p l e (rmm 4 94) s m args below meth c H locs 0 0 Q (F0 m 70 ls [])) (KX0 : ∀ (v0_ : Int32) (v1_ : St), w = .inr (v0_, v1_) → ∀ (H : Heap) (locs : List Loc) (ls : Array Slot), Wd g s v1_ H locs → lv_has ls 7 [(0, .ref (g.2.2 (101))), (1, .int (x1)), (2, .int (x2)), (3, .int (x3)), (4, .int (v0_))] → W p l e (rmm 4 94) s m args below meth c H locs 0 0 Q (F0 m 178 ls [])) {H : Heap} {locs : List Loc} {ls : Array Slot} (Y : Wd g s σ H locs) (hl : lv_has ls 7 [(0, .ref (g.2.2 (101))), (1, .int (x1)), (2, .int (x2)), (3, .int (x3)), (4, .int (x4)), (5, .int (x5))]) (h : f_X11_isWithin_j126 x1 x2 x3 x4 x5 s0 σ = some w) : W p l e (rmm 4 94) s m args below meth c H locs 0 0 Q (F0 m 126 ls [.int (s0)]) := by
  unfold f_X11_isWithin_j126 at h
  refine lv_istore (lv' := [(6, .int (s0)), (0, .ref (g.2.2 (101))), (1, .int (x1)), (2, .int (x2)), (3, .int (x3)), (4, .int (x4)), (5, .int (x5))]) X.1 X.2.1 (dk T_X11_isWithin 69 rfl) hl (Nat.le_of_ble_eq_true rfl) rfl (fun ls hl => ?_)
  refine lv_aload_n X.1 X.2.1 (dk T_X11_isWithin 70 rfl) rfl (lv_at hl 1 rfl) ?_
  refine gg X Y fl_X11_49 rfl rfl (dk T_X11_isWithin 71 rfl) ?_
  refine lv_iload X.1 X.2.1 (dk T_X11_isWithin 72 rfl) (lv_at hl 6 rfl) ?_
  refine lv_aload_n X.1 X.2.1 (dk T_X11_isWithin 73 rfl) rfl (lv_at hl 1 rfl) ?_
  refine gg X Y fl_X11_49 rfl rfl (dk T_X11_isWithin 74 rfl) ?_
  refine lv_iload X.1 X.2.1 (dk T_X11_isWithin 75 rfl) (lv_at hl 6 rfl) ?_
  obtain ⟨g13, h⟩ := gd h
  refine gzl X Y rfl (inp g13) (dk T_X11_isWithin 76 rfl) ?_
  refine lv_if_ne (tgt := 149) X.1 X.2.1 (dk T_X11_isWithin 77 rfl) rfl (fun c14 => ?_) (fun c14 => ?_)
  · replace h := ineg c14 h
    exact w_X11_isWithin_j149 X x1 x2 x3 x4 x5 s0 x5 σ KB KX0 Y (lv_sub hl [1, 2, 3, 4, 5, 6, 0] rfl) h
  · replace h := ipos c14 h
    refine lv_iload X.1 X.2.1 (dk T_X11_isWithin 78 rfl) (lv_at hl 0 rfl) ?_
    refine lv_if_eq (tgt := 153) X.1 X.2.1 (dk T_X11_isWithin 79 rfl) rfl (fun c18 => ?_) (fun c18 => ?_)
    · replace h := ipos c18 h
      refine lv_iconst (v := 0) X.1 X.2.1 (dk T_X11_isWithin 82 rfl) ic_0 ?_
      exact w_X11_isWithin_j154 X x1 x2 x3 x4 x5 s0 0 x5 σ KB KX0 Y (lv_sub hl [1, 2, 3, 4, 5, 6, 0] rfl) h
    · replace h := ineg c18 h
      exact w_X11_isWithin_j149 X x1 x2 x3 x4 x5 s0 x5 σ KB KX0 Y (lv_sub hl [1, 2, 3, 4, 5, 6, 0] rfl) h
def f_X11_isWithin_j125 (x1 : Int32) (x2 : Int32) (x3 : Int32) (x4 : Int32) (x5 : Int32) (σ : St) : Option ((Int32 × Int32 × St) ⊕ (Int32 × St)) :=
  f_X11_isWithin_j126 x1 x2 x3 x4 x5 0 σ
set_option maxHeartbeats 4000000 in
set_option maxRecDepth 100000 in
theorem w_X11_isWithin_j125 (X : Cx g RX11 cX11_isWithin 7 (some .boolean) p s m args meth c) (x1 : Int32) (x2 : Int32) (x3 : Int32) (x4 : Int32) (x5 : Int32) (σ : St) {w : (Int32 × Int32 × St) ⊕ (Int32 × St)} (KB : ∀ (v0_ : Int32) (v1_ : Int32) (v2_ : St), w = .inl (v0_, v1_, v2_) → ∀ (H : Heap) (locs : List Loc) (ls : Array Slot), Wd g s v2_ H locs → lv_has ls 7 [(0, .ref (g.2.2 (101))), (1, .int (x1)), (2, .int (x2)), (3, .int (x3)), (4, .int (v0_)), (5, .int (v1_))] → W p l e (rmm 4 94) s m args below meth c H locs 0 0 Q (F0 m 70 ls [])) (KX0 : ∀ (v0_ : Int32) (v1_ : St), w = .inr (v0_, v1_) → ∀ (H : Heap) (locs : List Loc) (ls : Array Slot), Wd g s v1_ H locs → lv_has ls 7 [(0, .ref (g.2.2 (101))), (1, .int (x1)), (2, .int (x2)), (3, .int (x3)), (4, .int (v0_))] → W p l e (rmm 4 94) s m args below meth c H locs 0 0 Q (F0 m 178 ls [])) {H : Heap} {locs : List Loc} {ls : Array Slot} (Y : Wd g s σ H locs) (hl : lv_has ls 7 [(0, .ref (g.2.2 (101))), (1, .int (x1)), (2, .int (x2)), (3, .int (x3)), (4, .int (x4)), (5, .int (x5))]) (h : f_X11_isWithin_j125 x1 x2 x3 x4 x5 σ = some w) : W p l e (rmm 4 94) s m args below meth c H locs 0 0 Q (F0 m 125 ls []) := by
  unfold f_X11_isWithin_j125 at h
  refine lv_iconst (v := 0) X.1 X.2.1 (dk T_X11_isWithin 68 rfl) ic_0 ?_
  exact w_X11_isWithin_j126 X x1 x2 x3 x4 x5 0 σ KB KX0 Y (lv_sub hl [0, 1, 2, 3, 4, 5] rfl) h
def f_X11_isWithin_j121 (x1 : Int32) (x2 : Int32) (x3 : Int32) (x4 : Int32) (x5 : Int32) (σ : St) : Option ((Int32 × Int32 × St) ⊕ (Int32 × St)) :=
  f_X11_isWithin_j126 x1 x2 x3 x4 x5 1 σ
set_option maxHeartbeats 4000000 in
set_option maxRecDepth 100000 in
theorem w_X11_isWithin_j121 (X : Cx g RX11 cX11_isWithin 7 (some .boolean) p s m args meth c) (x1 : Int32) (x2 : Int32) (x3 : Int32) (x4 : Int32) (x5 : Int32) (σ : St) {w : (Int32 × Int32 × St) ⊕ (Int32 × St)} (KB : ∀ (v0_ : Int32) (v1_ : Int32) (v2_ : St), w = .inl (v0_, v1_, v2_) → ∀ (H : Heap) (locs : List Loc) (ls : Array Slot), Wd g s v2_ H locs → lv_has ls 7 [(0, .ref (g.2.2 (101))), (1, .int (x1)), (2, .int (x2)), (3, .int (x3)), (4, .int (v0_)), (5, .int (v1_))] → W p l e (rmm 4 94) s m args below meth c H locs 0 0 Q (F0 m 70 ls [])) (KX0 : ∀ (v0_ : Int32) (v1_ : St), w = .inr (v0_, v1_) → ∀ (H : Heap) (locs : List Loc) (ls : Array Slot), Wd g s v1_ H locs → lv_has ls 7 [(0, .ref (g.2.2 (101))), (1, .int (x1)), (2, .int (x2)), (3, .int (x3)), (4, .int (v0_))] → W p l e (rmm 4 94) s m args below meth c H locs 0 0 Q (F0 m 178 ls [])) {H : Heap} {locs : List Loc} {ls : Array Slot} (Y : Wd g s σ H locs) (hl : lv_has ls 7 [(0, .ref (g.2.2 (101))), (1, .int (x1)), (2, .int (x2)), (3, .int (x3)), (4, .int (x4)), (5, .int (x5))]) (h : f_X11_isWithin_j121 x1 x2 x3 x4 x5 σ = some w) : W p l e (rmm 4 94) s m args below meth c H locs 0 0 Q (F0 m 121 ls []) := by
  unfold f_X11_isWithin_j121 at h
  refine lv_iconst (v := 1) X.1 X.2.1 (dk T_X11_isWithin 66 rfl) ic_1 ?_
  refine lv_goto (tgt := 126) X.1 X.2.1 (dk T_X11_isWithin 67 rfl) rfl ?_
  exact w_X11_isWithin_j126 X x1 x2 x3 x4 x5 1 σ KB KX0 Y (lv_sub hl [0, 1, 2, 3, 4, 5] rfl) h
def f_X11_isWithin_l70 (x1 : Int32) (x2 : Int32) (x3 : Int32) (z : Int32 × Int32 × St) : Option ((Int32 × Int32 × St) ⊕ (Int32 × St)) :=
  (f_X11_cells x3 z.2.2).bind fun q9 => if q9 ≤ z.2.1 then some (.inr (z.1, z.2.2)) else chk (inb z.2.1 100) (if (z.2.2 115 z.2.1.toNatClampNeg) = 0 then chk (inb z.2.1 100) (if (z.2.2 111 z.2.1.toNatClampNeg) = x2 then f_X11_isWithin_j125 x1 x2 x3 z.1 z.2.1 z.2.2 else (f_X11_isEdge x3 z.2.1 z.2.2).bind fun q21 => if q21 = 0 then (f_X11_isBesideOutside x3 z.2.1 z.2.2).bind fun q23 => if q23 = 0 then f_X11_isWithin_j125 x1 x2 x3 z.1 z.2.1 z.2.2 else f_X11_isWithin_j121 x1 x2 x3 z.1 z.2.1 z.2.2 else f_X11_isWithin_j121 x1 x2 x3 z.1 z.2.1 z.2.2) else f_X11_isWithin_j125 x1 x2 x3 z.1 z.2.1 z.2.2)
set_option maxHeartbeats 4000000 in
set_option maxRecDepth 100000 in
theorem w_X11_isWithin_l70 (X : Cx g RX11 cX11_isWithin 7 (some .boolean) p s m args meth c) (x1 : Int32) (x2 : Int32) (x3 : Int32) (σ : St) {r : Int32 × St} (KX0 : ∀ (v0_ : Int32) (v1_ : St), r = (v0_, v1_) → ∀ (H : Heap) (locs : List Loc) (ls : Array Slot), Wd g s v1_ H locs → lv_has ls 7 [(0, .ref (g.2.2 (101))), (1, .int (x1)), (2, .int (x2)), (3, .int (x3)), (4, .int (v0_))] → W p l e (rmm 4 94) s m args below meth c H locs 0 0 Q (F0 m 178 ls [])) : ∀ (n : Nat) (z : Int32 × Int32 × St) {H : Heap} {locs : List Loc} {ls : Array Slot}, Wd g s z.2.2 H locs → lv_has ls 7 [(0, .ref (g.2.2 (101))), (1, .int (x1)), (2, .int (x2)), (3, .int (x3)), (4, .int (z.1)), (5, .int (z.2.1))] → lp (f_X11_isWithin_l70 x1 x2 x3) n z = some r → W p l e (rmm 4 94) s m args below meth c H locs 0 0 Q (F0 m 70 ls []) := by
  intro n
  induction n with
  | zero => intro z H locs ls Y hl h; cases h
  | succ n ih =>
    intro z H locs ls Y hl h
    obtain ⟨w, h, hw⟩ := lps h
    have KB : ∀ (v0_ : Int32) (v1_ : Int32) (v2_ : St), w = .inl (v0_, v1_, v2_) → ∀ (H : Heap) (locs : List Loc) (ls : Array Slot), Wd g s v2_ H locs → lv_has ls 7 [(0, .ref (g.2.2 (101))), (1, .int (x1)), (2, .int (x2)), (3, .int (x3)), (4, .int (v0_)), (5, .int (v1_))] → W p l e (rmm 4 94) s m args below meth c H locs 0 0 Q (F0 m 70 ls []) := fun v0_ v1_ v2_ e H locs ls Y hl => ih (v0_, v1_, v2_) Y hl (lpl hw e)
    have KX0 := fun (v0_ : Int32) (v1_ : St) (e : w = .inr (v0_, v1_)) => KX0 v0_ v1_ (lpr hw e)
    unfold f_X11_isWithin_l70 at h
    refine lv_iload X.1 X.2.1 (dk T_X11_isWithin 40 rfl) (lv_at hl 5 rfl) ?_
    refine lv_aload_n X.1 X.2.1 (dk T_X11_isWithin 41 rfl) rfl (lv_at hl 0 rfl) ?_
    refine lv_iload_n X.1 X.2.1 (dk T_X11_isWithin 42 rfl) rfl (lv_at hl 3 rfl) ?_
    obtain ⟨q9, hq9, h⟩ := bs h
    refine gvI (rest := [.int (z.2.1)]) X Y (c_X11_cells x3 z.2.2 hq9) cb_X11_149 rfl hl.1 rfl rfl (Nat.le_of_ble_eq_true rfl) ⟨Nat.le_of_ble_eq_true rfl, Nat.le_of_ble_eq_true rfl⟩ (dk T_X11_isWithin 43 rfl) (fun H locs Y => ?_)
    refine lv_icmp_ge (tgt := 178) X.1 X.2.1 (dk T_X11_isWithin 44 rfl) rfl (fun c10 => ?_) (fun c10 => ?_)
    · replace h := ipos c10 h
      exact KX0 z.1 z.2.2 (Option.some.inj h).symm _ _ _ Y (lv_sub hl [0, 1, 2, 3, 4] rfl)
    · replace h := ineg c10 h
      refine lv_aload_n X.1 X.2.1 (dk T_X11_isWithin 45 rfl) rfl (lv_at hl 0 rfl) ?_
      refine gg X Y fl_X11_49 rfl rfl (dk T_X11_isWithin 46 rfl) ?_
      refine lv_iload X.1 X.2.1 (dk T_X11_isWithin 47 rfl) (lv_at hl 5 rfl) ?_
      obtain ⟨g11, h⟩ := gd h
      refine gzl X Y rfl (inp g11) (dk T_X11_isWithin 48 rfl) ?_
      refine lv_if_ne (tgt := 125) X.1 X.2.1 (dk T_X11_isWithin 49 rfl) rfl (fun c12 => ?_) (fun c12 => ?_)
      · replace h := ineg c12 h
        exact w_X11_isWithin_j125 X x1 x2 x3 z.1 z.2.1 z.2.2 KB KX0 Y (lv_sub hl [0, 1, 2, 3, 4, 5] rfl) h
      · replace h := ipos c12 h
        refine lv_aload_n X.1 X.2.1 (dk T_X11_isWithin 50 rfl) rfl (lv_at hl 0 rfl) ?_
        refine gg X Y fl_X11_37 rfl rfl (dk T_X11_isWithin 51 rfl) ?_
        refine lv_iload X.1 X.2.1 (dk T_X11_isWithin 52 rfl) (lv_at hl 5 rfl) ?_
        obtain ⟨g19, h⟩ := gd h
        refine gil X Y rfl (inp g19) (dk T_X11_isWithin 53 rfl) ?_
        refine lv_iload_n X.1 X.2.1 (dk T_X11_isWithin 54 rfl) rfl (lv_at hl 2 rfl) ?_
        refine lv_icmp_eq (tgt := 125) X.1 X.2.1 (dk T_X11_isWithin 55 rfl) rfl (fun c20 => ?_) (fun c20 => ?_)
        · replace h := ipos c20 h
          exact w_X11_isWithin_j125 X x1 x2 x3 z.1 z.2.1 z.2.2 KB KX0 Y (lv_sub hl [0, 1, 2, 3, 4, 5] rfl) h
        · replace h := ineg c20 h
          refine lv_aload_n X.1 X.2.1 (dk T_X11_isWithin 56 rfl) rfl (lv_at hl 0 rfl) ?_
          refine lv_iload_n X.1 X.2.1 (dk T_X11_isWithin 57 rfl) rfl (lv_at hl 3 rfl) ?_
          refine lv_iload X.1 X.2.1 (dk T_X11_isWithin 58 rfl) (lv_at hl 5 rfl) ?_
          obtain ⟨q21, hq21, h⟩ := bs h
          refine gvI (rest := []) X Y (c_X11_isEdge x3 z.2.1 z.2.2 hq21) cb_X11_227 rfl hl.1 rfl rfl (Nat.le_of_ble_eq_true rfl) ⟨Nat.le_of_ble_eq_true rfl, Nat.le_of_ble_eq_true rfl⟩ (dk T_X11_isWithin 59 rfl) (fun H locs Y => ?_)
          refine lv_if_ne (tgt := 121) X.1 X.2.1 (dk T_X11_isWithin 60 rfl) rfl (fun c22 => ?_) (fun c22 => ?_)
          · replace h := ineg c22 h
            exact w_X11_isWithin_j121 X x1 x2 x3 z.1 z.2.1 z.2.2 KB KX0 Y (lv_sub hl [0, 1, 2, 3, 4, 5] rfl) h
          · replace h := ipos c22 h
            refine lv_aload_n X.1 X.2.1 (dk T_X11_isWithin 61 rfl) rfl (lv_at hl 0 rfl) ?_
            refine lv_iload_n X.1 X.2.1 (dk T_X11_isWithin 62 rfl) rfl (lv_at hl 3 rfl) ?_
            refine lv_iload X.1 X.2.1 (dk T_X11_isWithin 63 rfl) (lv_at hl 5 rfl) ?_
            obtain ⟨q23, hq23, h⟩ := bs h
            refine gvI (rest := []) X Y (c_X11_isBesideOutside x3 z.2.1 z.2.2 hq23) cb_X11_230 rfl hl.1 rfl rfl (Nat.le_of_ble_eq_true rfl) ⟨Nat.le_of_ble_eq_true rfl, Nat.le_of_ble_eq_true rfl⟩ (dk T_X11_isWithin 64 rfl) (fun H locs Y => ?_)
            refine lv_if_eq (tgt := 125) X.1 X.2.1 (dk T_X11_isWithin 65 rfl) rfl (fun c24 => ?_) (fun c24 => ?_)
            · replace h := ipos c24 h
              exact w_X11_isWithin_j125 X x1 x2 x3 z.1 z.2.1 z.2.2 KB KX0 Y (lv_sub hl [0, 1, 2, 3, 4, 5] rfl) h
            · replace h := ineg c24 h
              exact w_X11_isWithin_j121 X x1 x2 x3 z.1 z.2.1 z.2.2 KB KX0 Y (lv_sub hl [0, 1, 2, 3, 4, 5] rfl) h
def f_X11_isWithin_l59 (x1 : Int32) (x2 : Int32) (x3 : Int32) (z : Int32 × St) : Option ((Int32 × St) ⊕ (St)) :=
  if z.1 = 0 then some (.inr z.2) else (lp (f_X11_isWithin_l70 x1 x2 x3) FU (0, 0, z.2)).bind fun q25 => some (.inl (q25.1, q25.2))
set_option maxHeartbeats 4000000 in
set_option maxRecDepth 100000 in
theorem w_X11_isWithin_l59 (X : Cx g RX11 cX11_isWithin 7 (some .boolean) p s m args meth c) (x1 : Int32) (x2 : Int32) (x3 : Int32) (σ : St) {r : St} (KX0 : ∀ (v : St), r = v → ∀ (H : Heap) (locs : List Loc) (ls : Array Slot), Wd g s v H locs → lv_has ls 7 [(0, .ref (g.2.2 (101))), (1, .int (x1))] → W p l e (rmm 4 94) s m args below meth c H locs 0 0 Q (F0 m 181 ls [])) : ∀ (n : Nat) (z : Int32 × St) {H : Heap} {locs : List Loc} {ls : Array Slot}, Wd g s z.2 H locs → lv_has ls 7 [(0, .ref (g.2.2 (101))), (1, .int (x1)), (2, .int (x2)), (3, .int (x3)), (4, .int (z.1))] → lp (f_X11_isWithin_l59 x1 x2 x3) n z = some r → W p l e (rmm 4 94) s m args below meth c H locs 0 0 Q (F0 m 59 ls []) := by
  intro n
  induction n with
  | zero => intro z H locs ls Y hl h; cases h
  | succ n ih =>
    intro z H locs ls Y hl h
    obtain ⟨w, h, hw⟩ := lps h
    have KB : ∀ (v0_ : Int32) (v1_ : St), w = .inl (v0_, v1_) → ∀ (H : Heap) (locs : List Loc) (ls : Array Slot), Wd g s v1_ H locs → lv_has ls 7 [(0, .ref (g.2.2 (101))), (1, .int (x1)), (2, .int (x2)), (3, .int (x3)), (4, .int (v0_))] → W p l e (rmm 4 94) s m args below meth c H locs 0 0 Q (F0 m 59 ls []) := fun v0_ v1_ e H locs ls Y hl => ih (v0_, v1_) Y hl (lpl hw e)
    have KX0 := fun (v : St) (e : w = .inr v) => KX0 v (lpr hw e)
    unfold f_X11_isWithin_l59 at h
    refine lv_iload X.1 X.2.1 (dk T_X11_isWithin 34 rfl) (lv_at hl 4 rfl) ?_
    refine lv_if_eq (tgt := 181) X.1 X.2.1 (dk T_X11_isWithin 35 rfl) rfl (fun c8 => ?_) (fun c8 => ?_)
    · replace h := ipos c8 h
      exact KX0 z.2 (Option.some.inj h).symm _ _ _ Y (lv_sub hl [0, 1] rfl)
    · replace h := ineg c8 h
      refine lv_iconst (v := 0) X.1 X.2.1 (dk T_X11_isWithin 36 rfl) ic_0 ?_
      refine lv_istore (lv' := [(4, .int (0)), (0, .ref (g.2.2 (101))), (1, .int (x1)), (2, .int (x2)), (3, .int (x3))]) X.1 X.2.1 (dk T_X11_isWithin 37 rfl) hl (Nat.le_of_ble_eq_true rfl) rfl (fun ls hl => ?_)
      refine lv_iconst (v := 0) X.1 X.2.1 (dk T_X11_isWithin 38 rfl) ic_0 ?_
      refine lv_istore (lv' := [(5, .int (0)), (4, .int (0)), (0, .ref (g.2.2 (101))), (1, .int (x1)), (2, .int (x2)), (3, .int (x3))]) X.1 X.2.1 (dk T_X11_isWithin 39 rfl) hl (Nat.le_of_ble_eq_true rfl) rfl (fun ls hl => ?_)
      obtain ⟨q25, hq25, h⟩ := bs h
      refine w_X11_isWithin_l70 X x1 x2 x3 σ (fun v0_ v1_ e H locs ls Y hl => ?_) FU (0, 0, z.2) Y (lv_sub hl [2, 3, 4, 5, 1, 0] rfl) hq25
      · obtain ⟨rfl, rfl⟩ : v0_ = q25.1 ∧ v1_ = q25.2 := ⟨by rw [e], by rw [e]⟩
        refine lv_goto (tgt := 59) X.1 X.2.1 (dk T_X11_isWithin 94 rfl) rfl ?_
        exact KB q25.1 q25.2 (Option.some.inj h).symm _ _ _ Y (lv_sub hl [0, 1, 2, 3, 4] rfl)
def f_X11_isWithin_0 (x1 : Int32) (x2 : Int32) (σ : St) : Option (Int32 × St) :=
  chk (inb (681 + x1) 761) (if x1 = x2 then some (0, σ) else chk (inb (681 + x2) 761) (if (σ 102 (681 + x2).toNatClampNeg) = (σ 102 (681 + x1).toNatClampNeg) then (lp (f_X11_isWithin_l35 x1 x2 (σ 102 (681 + x1).toNatClampNeg)) FU (0, σ)).bind fun q7 => (lp (f_X11_isWithin_l59 x1 x2 (σ 102 (681 + x1).toNatClampNeg)) FU (1, q7)).bind fun q26 => (f_X11_lowestCell x1 q26).bind fun q27 => chk (inb q27 100) (if (q26 115 q27.toNatClampNeg) = 0 then some (1, q26) else some (0, q26)) else some (0, σ)))
set_option maxHeartbeats 4000000 in
set_option maxRecDepth 100000 in
theorem w_X11_isWithin_0 (X : Cx g RX11 cX11_isWithin 7 (some .boolean) p s m args meth c) (x1 : Int32) (x2 : Int32) (σ : St) {w : Int32 × St} (KR : ∀ (H : Heap) (locs : List Loc) (ls : Array Slot) (pc : Nat), Wd g s w.2 H locs → decode cX11_isWithin pc = .ok (.ireturn, 1) → W p l e (rmm 4 94) s m args below meth c H locs 0 0 Q (F0 m pc ls [.int (w.1)])) {H : Heap} {locs : List Loc} {ls : Array Slot} (Y : Wd g s σ H locs) (hl : lv_has ls 7 [(0, .ref (g.2.2 (101))), (1, .int (x1)), (2, .int (x2))]) (h : f_X11_isWithin_0 x1 x2 σ = some w) : W p l e (rmm 4 94) s m args below meth c H locs 0 0 Q (F0 m 0 ls []) := by
  unfold f_X11_isWithin_0 at h
  refine lv_aload_n X.1 X.2.1 (dk T_X11_isWithin 0 rfl) rfl (lv_at hl 0 rfl) ?_
  refine gg X Y fl_X11_7 rfl rfl (dk T_X11_isWithin 1 rfl) ?_
  refine lv_sipush (v := 681) X.1 X.2.1 (dk T_X11_isWithin 2 rfl) sp_681 ?_
  refine lv_iload_n X.1 X.2.1 (dk T_X11_isWithin 3 rfl) rfl (lv_at hl 1 rfl) ?_
  refine lv_iadd X.1 X.2.1 (dk T_X11_isWithin 4 rfl) ?_
  obtain ⟨g1, h⟩ := gd h
  refine gil X Y rfl (inp g1) (dk T_X11_isWithin 5 rfl) ?_
  refine lv_istore_n (lv' := [(3, .int (σ 102 (681 + x1).toNatClampNeg)), (0, .ref (g.2.2 (101))), (1, .int (x1)), (2, .int (x2))]) X.1 X.2.1 (dk T_X11_isWithin 6 rfl) rfl hl (Nat.le_of_ble_eq_true rfl) rfl (fun ls hl => ?_)
  refine lv_iload_n X.1 X.2.1 (dk T_X11_isWithin 7 rfl) rfl (lv_at hl 2 rfl) ?_
  refine lv_iload_n X.1 X.2.1 (dk T_X11_isWithin 8 rfl) rfl (lv_at hl 3 rfl) ?_
  refine lv_icmp_eq (tgt := 30) X.1 X.2.1 (dk T_X11_isWithin 9 rfl) rfl (fun c2 => ?_) (fun c2 => ?_)
  · replace h := ipos c2 h
    refine lv_iconst (v := 0) X.1 X.2.1 (dk T_X11_isWithin 18 rfl) ic_0 ?_
    obtain rfl := Option.some.inj h
    exact KR _ _ _ _ Y (dk T_X11_isWithin 19 rfl)
  · replace h := ineg c2 h
    refine lv_aload_n X.1 X.2.1 (dk T_X11_isWithin 10 rfl) rfl (lv_at hl 1 rfl) ?_
    refine gg X Y fl_X11_7 rfl rfl (dk T_X11_isWithin 11 rfl) ?_
    refine lv_sipush (v := 681) X.1 X.2.1 (dk T_X11_isWithin 12 rfl) sp_681 ?_
    refine lv_iload_n X.1 X.2.1 (dk T_X11_isWithin 13 rfl) rfl (lv_at hl 3 rfl) ?_
    refine lv_iadd X.1 X.2.1 (dk T_X11_isWithin 14 rfl) ?_
    obtain ⟨g3, h⟩ := gd h
    refine gil X Y rfl (inp g3) (dk T_X11_isWithin 15 rfl) ?_
    refine lv_iload_n X.1 X.2.1 (dk T_X11_isWithin 16 rfl) rfl (lv_at hl 0 rfl) ?_
    refine lv_icmp_eq (tgt := 32) X.1 X.2.1 (dk T_X11_isWithin 17 rfl) rfl (fun c4 => ?_) (fun c4 => ?_)
    · replace h := ipos c4 h
      refine lv_iconst (v := 0) X.1 X.2.1 (dk T_X11_isWithin 20 rfl) ic_0 ?_
      refine lv_istore (lv' := [(4, .int (0)), (3, .int (σ 102 (681 + x1).toNatClampNeg)), (0, .ref (g.2.2 (101))), (1, .int (x1)), (2, .int (x2))]) X.1 X.2.1 (dk T_X11_isWithin 21 rfl) hl (Nat.le_of_ble_eq_true rfl) rfl (fun ls hl => ?_)
      obtain ⟨q7, hq7, h⟩ := bs h
      refine w_X11_isWithin_l35 X x1 x2 (σ 102 (681 + x1).toNatClampNeg) σ (fun v e H locs ls Y hl => ?_) FU (0, σ) Y (lv_sub hl [2, 3, 4, 1, 0] rfl) hq7
      · obtain rfl := e
        refine lv_iconst (v := 1) X.1 X.2.1 (dk T_X11_isWithin 32 rfl) ic_1 ?_
        refine lv_istore (lv' := [(4, .int (1)), (0, .ref (g.2.2 (101))), (1, .int (x1)), (2, .int (x2)), (3, .int (σ 102 (681 + x1).toNatClampNeg))]) X.1 X.2.1 (dk T_X11_isWithin 33 rfl) hl (Nat.le_of_ble_eq_true rfl) rfl (fun ls hl => ?_)
        obtain ⟨q26, hq26, h⟩ := bs h
        refine w_X11_isWithin_l59 X x1 x2 (σ 102 (681 + x1).toNatClampNeg) σ (fun v e H locs ls Y hl => ?_) FU (1, q7) Y (lv_sub hl [1, 2, 3, 4, 0] rfl) hq26
        · obtain rfl := e
          refine lv_aload_n X.1 X.2.1 (dk T_X11_isWithin 95 rfl) rfl (lv_at hl 0 rfl) ?_
          refine gg X Y fl_X11_49 rfl rfl (dk T_X11_isWithin 96 rfl) ?_
          refine lv_aload_n X.1 X.2.1 (dk T_X11_isWithin 97 rfl) rfl (lv_at hl 0 rfl) ?_
          refine lv_iload_n X.1 X.2.1 (dk T_X11_isWithin 98 rfl) rfl (lv_at hl 1 rfl) ?_
          obtain ⟨q27, hq27, h⟩ := bs h
          refine gvI (rest := [.ref (g.2.2 (115))]) X Y (c_X11_lowestCell x1 q26 hq27) cb_X11_233 rfl hl.1 rfl rfl (Nat.le_of_ble_eq_true rfl) ⟨Nat.le_of_ble_eq_true rfl, Nat.le_of_ble_eq_true rfl⟩ (dk T_X11_isWithin 99 rfl) (fun H locs Y => ?_)
          obtain ⟨g28, h⟩ := gd h
          refine gzl X Y rfl (inp g28) (dk T_X11_isWithin 100 rfl) ?_
          refine lv_if_ne (tgt := 198) X.1 X.2.1 (dk T_X11_isWithin 101 rfl) rfl (fun c29 => ?_) (fun c29 => ?_)
          · replace h := ineg c29 h
            refine lv_iconst (v := 0) X.1 X.2.1 (dk T_X11_isWithin 104 rfl) ic_0 ?_
            obtain rfl := Option.some.inj h
            exact KR _ _ _ _ Y (dk T_X11_isWithin 105 rfl)
          · replace h := ipos c29 h
            refine lv_iconst (v := 1) X.1 X.2.1 (dk T_X11_isWithin 102 rfl) ic_1 ?_
            refine lv_goto (tgt := 199) X.1 X.2.1 (dk T_X11_isWithin 103 rfl) rfl ?_
            obtain rfl := Option.some.inj h
            exact KR _ _ _ _ Y (dk T_X11_isWithin 105 rfl)
    · replace h := ineg c4 h
      refine lv_iconst (v := 0) X.1 X.2.1 (dk T_X11_isWithin 18 rfl) ic_0 ?_
      obtain rfl := Option.some.inj h
      exact KR _ _ _ _ Y (dk T_X11_isWithin 19 rfl)
def f_X11_isWithin (x1 : Int32) (x2 : Int32) (σ : St) : Option (Int32 × St) := bzW (f_X11_isWithin_0 x1 x2 σ)
set_option maxHeartbeats 4000000 in
set_option maxRecDepth 100000 in
theorem c_X11_isWithin {l : Launch} {g : Geo} (x1 : Int32) (x2 : Int32) (σ : St) {w : Int32 × St} (h : f_X11_isWithin x1 x2 σ = some w) : CtI l yX11_isWithin cX11_isWithin 7 (some .boolean) (rmm 4 94) g [.ref (g.2.2 (101)), .int (x1), .int (x2)] σ w.1 w.2 := by
  obtain ⟨h, hz⟩ := bzW_s h
  exact enI .boolean (by decide) rfl (bz_n hz) (Nat.le_of_ble_eq_true rfl) (fun p e s m args below meth c Q X Y ls hl KR => w_X11_isWithin_0 X x1 x2 σ KR Y hl h)
def I_X11_around : List (Nat × Instr × Nat) := [(0, .aload_n 0, 1), (1, .aload_n 0, 1), (2, .getfield 7, 3), (5, .sipush 681, 3), (8, .iload_n 1, 1), (9, .iadd, 1), (10, .iaload, 1), (11, .invokevirtual 145, 3), (14, .iconst (-1), 1), (15, .istore_n 2, 1), (16, .iconst 0, 1), (17, .istore_n 3, 1), (18, .iload_n 3, 1), (19, .aload_n 0, 1), (20, .getfield 7, 3), (23, .iconst 2, 1), (24, .iaload, 1), (25, .if_icmp .ge 76, 3), (28, .aload_n 0, 1), (29, .getfield 7, 3), (32, .sipush 637, 3), (35, .aload_n 0, 1), (36, .getfield 7, 3), (39, .sipush 661, 3), (42, .iload_n 3, 1), (43, .iadd, 1), (44, .iaload, 1), (45, .iadd, 1), (46, .iaload, 1), (47, .invokestatic 191, 3), (50, .istore 4, 2), (52, .aload_n 0, 1), (53, .iload_n 1, 1), (54, .iload_n 3, 1), (55, .invokevirtual 236, 3), (58, .ifCond .eq 37, 3), (61, .iload_n 2, 1), (62, .iconst (-1), 1), (63, .if_icmp .eq 30, 3), (66, .iload 4, 2), (68, .aload_n 0, 1), (69, .getfield 7, 3), (72, .sipush 637, 3), (75, .aload_n 0, 1), (76, .getfield 7, 3), (79, .sipush 661, 3), (82, .iload_n 2, 1), (83, .iadd, 1), (84, .iaload, 1), (85, .iadd, 1), (86, .iaload, 1), (87, .invokestatic 191, 3), (90, .if_icmp .ge 5, 3), (93, .iload_n 3, 1), (94, .istore_n 2, 1), (95, .iinc 3 1, 3), (98, .goto (-80), 3), (101, .iload_n 2, 1), (102, .ireturn, 1)]
set_option maxRecDepth 100000 in
theorem T_X11_around : ∀ q ∈ I_X11_around, decode cX11_around q.1 = .ok (q.2.1, q.2.2) := by decide +kernel
def f_X11_around_j95 (x1 : Int32) (x2 : Int32) (x3 : Int32) (σ : St) : Option ((Int32 × Int32 × St) ⊕ (Int32 × St)) :=
  some (.inl (x2, x3 + 1, σ))
set_option maxHeartbeats 4000000 in
set_option maxRecDepth 100000 in
theorem w_X11_around_j95 (X : Cx g RX11 cX11_around 5 (some .int) p s m args meth c) (x1 : Int32) (x2 : Int32) (x3 : Int32) (σ : St) {w : (Int32 × Int32 × St) ⊕ (Int32 × St)} (KB : ∀ (v0_ : Int32) (v1_ : Int32) (v2_ : St), w = .inl (v0_, v1_, v2_) → ∀ (H : Heap) (locs : List Loc) (ls : Array Slot), Wd g s v2_ H locs → lv_has ls 5 [(0, .ref (g.2.2 (101))), (1, .int (x1)), (2, .int (v0_)), (3, .int (v1_))] → W p l e (rmm 5 120) s m args below meth c H locs 0 0 Q (F0 m 18 ls [])) (KX0 : ∀ (v0_ : Int32) (v1_ : St), w = .inr (v0_, v1_) → ∀ (H : Heap) (locs : List Loc) (ls : Array Slot), Wd g s v1_ H locs → lv_has ls 5 [(2, .int (v0_))] → W p l e (rmm 5 120) s m args below meth c H locs 0 0 Q (F0 m 101 ls [])) {H : Heap} {locs : List Loc} {ls : Array Slot} (Y : Wd g s σ H locs) (hl : lv_has ls 5 [(0, .ref (g.2.2 (101))), (1, .int (x1)), (2, .int (x2)), (3, .int (x3))]) (h : f_X11_around_j95 x1 x2 x3 σ = some w) : W p l e (rmm 5 120) s m args below meth c H locs 0 0 Q (F0 m 95 ls []) := by
  unfold f_X11_around_j95 at h
  refine lv_iinc (v := x3 + 1) (lv' := [(3, .int (x3 + 1)), (0, .ref (g.2.2 (101))), (1, .int (x1)), (2, .int (x2))]) X.1 X.2.1 (dk T_X11_around 55 rfl) hl (k := 3) rfl (icx ic_1) (Nat.le_of_ble_eq_true rfl) rfl (fun ls hl => ?_)
  refine lv_goto (tgt := 18) X.1 X.2.1 (dk T_X11_around 56 rfl) rfl ?_
  exact KB x2 (x3 + 1) σ (Option.some.inj h).symm _ _ _ Y (lv_sub hl [1, 2, 3, 0] rfl)
def f_X11_around_j93 (x1 : Int32) (x3 : Int32) (σ : St) : Option ((Int32 × Int32 × St) ⊕ (Int32 × St)) :=
  f_X11_around_j95 x1 x3 x3 σ
set_option maxHeartbeats 4000000 in
set_option maxRecDepth 100000 in
theorem w_X11_around_j93 (X : Cx g RX11 cX11_around 5 (some .int) p s m args meth c) (x1 : Int32) (x3 : Int32) (σ : St) {w : (Int32 × Int32 × St) ⊕ (Int32 × St)} (KB : ∀ (v0_ : Int32) (v1_ : Int32) (v2_ : St), w = .inl (v0_, v1_, v2_) → ∀ (H : Heap) (locs : List Loc) (ls : Array Slot), Wd g s v2_ H locs → lv_has ls 5 [(0, .ref (g.2.2 (101))), (1, .int (x1)), (2, .int (v0_)), (3, .int (v1_))] → W p l e (rmm 5 120) s m args below meth c H locs 0 0 Q (F0 m 18 ls [])) (KX0 : ∀ (v0_ : Int32) (v1_ : St), w = .inr (v0_, v1_) → ∀ (H : Heap) (locs : List Loc) (ls : Array Slot), Wd g s v1_ H locs → lv_has ls 5 [(2, .int (v0_))] → W p l e (rmm 5 120) s m args below meth c H locs 0 0 Q (F0 m 101 ls [])) {H : Heap} {locs : List Loc} {ls : Array Slot} (Y : Wd g s σ H locs) (hl : lv_has ls 5 [(0, .ref (g.2.2 (101))), (1, .int (x1)), (3, .int (x3))]) (h : f_X11_around_j93 x1 x3 σ = some w) : W p l e (rmm 5 120) s m args below meth c H locs 0 0 Q (F0 m 93 ls []) := by
  unfold f_X11_around_j93 at h
  refine lv_iload_n X.1 X.2.1 (dk T_X11_around 53 rfl) rfl (lv_at hl 2 rfl) ?_
  refine lv_istore_n (lv' := [(2, .int (x3)), (0, .ref (g.2.2 (101))), (1, .int (x1)), (3, .int (x3))]) X.1 X.2.1 (dk T_X11_around 54 rfl) rfl hl (Nat.le_of_ble_eq_true rfl) rfl (fun ls hl => ?_)
  exact w_X11_around_j95 X x1 x3 x3 σ KB KX0 Y (lv_sub hl [1, 2, 0, 3] rfl) h
def f_X11_around_l18 (x1 : Int32) (z : Int32 × Int32 × St) : Option ((Int32 × Int32 × St) ⊕ (Int32 × St)) :=
  chk (inb 2 761) (if (z.2.2 102 (2 : Int32).toNatClampNeg) ≤ z.2.1 then some (.inr (z.1, z.2.2)) else chk (inb (661 + z.2.1) 761) (chk (inb (637 + (z.2.2 102 (661 + z.2.1).toNatClampNeg)) 761) ((f_X11_bits (z.2.2 102 (637 + (z.2.2 102 (661 + z.2.1).toNatClampNeg)).toNatClampNeg)).bind fun q7 => (f_X11_isWithin x1 z.2.1 z.2.2).bind fun q8 => if q8.1 = 0 then f_X11_around_j95 x1 z.1 z.2.1 q8.2 else if z.1 = (-1) then f_X11_around_j93 x1 z.2.1 q8.2 else chk (inb (661 + z.1) 761) (chk (inb (637 + (q8.2 102 (661 + z.1).toNatClampNeg)) 761) ((f_X11_bits (q8.2 102 (637 + (q8.2 102 (661 + z.1).toNatClampNeg)).toNatClampNeg)).bind fun q13 => if q13 ≤ q7 then f_X11_around_j95 x1 z.1 z.2.1 q8.2 else f_X11_around_j93 x1 z.2.1 q8.2)))))
set_option maxHeartbeats 4000000 in
set_option maxRecDepth 100000 in
theorem w_X11_around_l18 (X : Cx g RX11 cX11_around 5 (some .int) p s m args meth c) (x1 : Int32) (σ : St) {r : Int32 × St} (KX0 : ∀ (v0_ : Int32) (v1_ : St), r = (v0_, v1_) → ∀ (H : Heap) (locs : List Loc) (ls : Array Slot), Wd g s v1_ H locs → lv_has ls 5 [(2, .int (v0_))] → W p l e (rmm 5 120) s m args below meth c H locs 0 0 Q (F0 m 101 ls [])) : ∀ (n : Nat) (z : Int32 × Int32 × St) {H : Heap} {locs : List Loc} {ls : Array Slot}, Wd g s z.2.2 H locs → lv_has ls 5 [(0, .ref (g.2.2 (101))), (1, .int (x1)), (2, .int (z.1)), (3, .int (z.2.1))] → lp (f_X11_around_l18 x1) n z = some r → W p l e (rmm 5 120) s m args below meth c H locs 0 0 Q (F0 m 18 ls []) := by
  intro n
  induction n with
  | zero => intro z H locs ls Y hl h; cases h
  | succ n ih =>
    intro z H locs ls Y hl h
    obtain ⟨w, h, hw⟩ := lps h
    have KB : ∀ (v0_ : Int32) (v1_ : Int32) (v2_ : St), w = .inl (v0_, v1_, v2_) → ∀ (H : Heap) (locs : List Loc) (ls : Array Slot), Wd g s v2_ H locs → lv_has ls 5 [(0, .ref (g.2.2 (101))), (1, .int (x1)), (2, .int (v0_)), (3, .int (v1_))] → W p l e (rmm 5 120) s m args below meth c H locs 0 0 Q (F0 m 18 ls []) := fun v0_ v1_ v2_ e H locs ls Y hl => ih (v0_, v1_, v2_) Y hl (lpl hw e)
    have KX0 := fun (v0_ : Int32) (v1_ : St) (e : w = .inr (v0_, v1_)) => KX0 v0_ v1_ (lpr hw e)
    unfold f_X11_around_l18 at h
    refine lv_iload_n X.1 X.2.1 (dk T_X11_around 12 rfl) rfl (lv_at hl 3 rfl) ?_
    refine lv_aload_n X.1 X.2.1 (dk T_X11_around 13 rfl) rfl (lv_at hl 0 rfl) ?_
    refine gg X Y fl_X11_7 rfl rfl (dk T_X11_around 14 rfl) ?_
    refine lv_iconst (v := 2) X.1 X.2.1 (dk T_X11_around 15 rfl) ic_2 ?_
    obtain ⟨g3, h⟩ := gd h
    refine gil X Y rfl (inp g3) (dk T_X11_around 16 rfl) ?_
    refine lv_icmp_ge (tgt := 101) X.1 X.2.1 (dk T_X11_around 17 rfl) rfl (fun c4 => ?_) (fun c4 => ?_)
    · replace h := ipos c4 h
      exact KX0 z.1 z.2.2 (Option.some.inj h).symm _ _ _ Y (lv_sub hl [2] rfl)
    · replace h := ineg c4 h
      refine lv_aload_n X.1 X.2.1 (dk T_X11_around 18 rfl) rfl (lv_at hl 0 rfl) ?_
      refine gg X Y fl_X11_7 rfl rfl (dk T_X11_around 19 rfl) ?_
      refine lv_sipush (v := 637) X.1 X.2.1 (dk T_X11_around 20 rfl) sp_637 ?_
      refine lv_aload_n X.1 X.2.1 (dk T_X11_around 21 rfl) rfl (lv_at hl 0 rfl) ?_
      refine gg X Y fl_X11_7 rfl rfl (dk T_X11_around 22 rfl) ?_
      refine lv_sipush (v := 661) X.1 X.2.1 (dk T_X11_around 23 rfl) sp_661 ?_
      refine lv_iload_n X.1 X.2.1 (dk T_X11_around 24 rfl) rfl (lv_at hl 3 rfl) ?_
      refine lv_iadd X.1 X.2.1 (dk T_X11_around 25 rfl) ?_
      obtain ⟨g5, h⟩ := gd h
      refine gil X Y rfl (inp g5) (dk T_X11_around 26 rfl) ?_
      refine lv_iadd X.1 X.2.1 (dk T_X11_around 27 rfl) ?_
      obtain ⟨g6, h⟩ := gd h
      refine gil X Y rfl (inp g6) (dk T_X11_around 28 rfl) ?_
      obtain ⟨q7, hq7, h⟩ := bs h
      refine gsI (rest := []) X Y (c_X11_bits (z.2.2 102 (637 + (z.2.2 102 (661 + z.2.1).toNatClampNeg)).toNatClampNeg) z.2.2 hq7) cb_X11_191 hl.1 rfl rfl (Nat.le_of_ble_eq_true rfl) ⟨Nat.le_of_ble_eq_true rfl, Nat.le_of_ble_eq_true rfl⟩ (dk T_X11_around 29 rfl) (fun H locs Y => ?_)
      refine lv_istore (lv' := [(4, .int (q7)), (0, .ref (g.2.2 (101))), (1, .int (x1)), (2, .int (z.1)), (3, .int (z.2.1))]) X.1 X.2.1 (dk T_X11_around 30 rfl) hl (Nat.le_of_ble_eq_true rfl) rfl (fun ls hl => ?_)
      refine lv_aload_n X.1 X.2.1 (dk T_X11_around 31 rfl) rfl (lv_at hl 1 rfl) ?_
      refine lv_iload_n X.1 X.2.1 (dk T_X11_around 32 rfl) rfl (lv_at hl 2 rfl) ?_
      refine lv_iload_n X.1 X.2.1 (dk T_X11_around 33 rfl) rfl (lv_at hl 4 rfl) ?_
      obtain ⟨q8, hq8, h⟩ := bs h
      refine gvI (rest := []) X Y (c_X11_isWithin x1 z.2.1 z.2.2 hq8) cb_X11_236 rfl hl.1 rfl rfl (Nat.le_of_ble_eq_true rfl) ⟨Nat.le_of_ble_eq_true rfl, Nat.le_of_ble_eq_true rfl⟩ (dk T_X11_around 34 rfl) (fun H locs Y => ?_)
      refine lv_if_eq (tgt := 95) X.1 X.2.1 (dk T_X11_around 35 rfl) rfl (fun c9 => ?_) (fun c9 => ?_)
      · replace h := ipos c9 h
        exact w_X11_around_j95 X x1 z.1 z.2.1 q8.2 KB KX0 Y (lv_sub hl [1, 2, 3, 4] rfl) h
      · replace h := ineg c9 h
        refine lv_iload_n X.1 X.2.1 (dk T_X11_around 36 rfl) rfl (lv_at hl 3 rfl) ?_
        refine lv_iconst (v := (-1)) X.1 X.2.1 (dk T_X11_around 37 rfl) ic_m1 ?_
        refine lv_icmp_eq (tgt := 93) X.1 X.2.1 (dk T_X11_around 38 rfl) rfl (fun c10 => ?_) (fun c10 => ?_)
        · replace h := ipos c10 h
          exact w_X11_around_j93 X x1 z.2.1 q8.2 KB KX0 Y (lv_sub hl [1, 2, 4] rfl) h
        · replace h := ineg c10 h
          refine lv_iload X.1 X.2.1 (dk T_X11_around 39 rfl) (lv_at hl 0 rfl) ?_
          refine lv_aload_n X.1 X.2.1 (dk T_X11_around 40 rfl) rfl (lv_at hl 1 rfl) ?_
          refine gg X Y fl_X11_7 rfl rfl (dk T_X11_around 41 rfl) ?_
          refine lv_sipush (v := 637) X.1 X.2.1 (dk T_X11_around 42 rfl) sp_637 ?_
          refine lv_aload_n X.1 X.2.1 (dk T_X11_around 43 rfl) rfl (lv_at hl 1 rfl) ?_
          refine gg X Y fl_X11_7 rfl rfl (dk T_X11_around 44 rfl) ?_
          refine lv_sipush (v := 661) X.1 X.2.1 (dk T_X11_around 45 rfl) sp_661 ?_
          refine lv_iload_n X.1 X.2.1 (dk T_X11_around 46 rfl) rfl (lv_at hl 3 rfl) ?_
          refine lv_iadd X.1 X.2.1 (dk T_X11_around 47 rfl) ?_
          obtain ⟨g11, h⟩ := gd h
          refine gil X Y rfl (inp g11) (dk T_X11_around 48 rfl) ?_
          refine lv_iadd X.1 X.2.1 (dk T_X11_around 49 rfl) ?_
          obtain ⟨g12, h⟩ := gd h
          refine gil X Y rfl (inp g12) (dk T_X11_around 50 rfl) ?_
          obtain ⟨q13, hq13, h⟩ := bs h
          refine gsI (rest := [.int (q7)]) X Y (c_X11_bits (q8.2 102 (637 + (q8.2 102 (661 + z.1).toNatClampNeg)).toNatClampNeg) q8.2 hq13) cb_X11_191 hl.1 rfl rfl (Nat.le_of_ble_eq_true rfl) ⟨Nat.le_of_ble_eq_true rfl, Nat.le_of_ble_eq_true rfl⟩ (dk T_X11_around 51 rfl) (fun H locs Y => ?_)
          refine lv_icmp_ge (tgt := 95) X.1 X.2.1 (dk T_X11_around 52 rfl) rfl (fun c14 => ?_) (fun c14 => ?_)
          · replace h := ipos c14 h
            exact w_X11_around_j95 X x1 z.1 z.2.1 q8.2 KB KX0 Y (lv_sub hl [1, 2, 3, 4] rfl) h
          · replace h := ineg c14 h
            exact w_X11_around_j93 X x1 z.2.1 q8.2 KB KX0 Y (lv_sub hl [1, 2, 4] rfl) h
def f_X11_around_0 (x1 : Int32) (σ : St) : Option (Int32 × St) :=
  chk (inb (681 + x1) 761) ((f_X11_looks (σ 102 (681 + x1).toNatClampNeg) σ).bind fun q2 => (lp (f_X11_around_l18 x1) FU ((-1), 0, q2)).bind fun q15 => some (q15.1, q15.2))
set_option maxHeartbeats 4000000 in
set_option maxRecDepth 100000 in
theorem w_X11_around_0 (X : Cx g RX11 cX11_around 5 (some .int) p s m args meth c) (x1 : Int32) (σ : St) {w : Int32 × St} (KR : ∀ (H : Heap) (locs : List Loc) (ls : Array Slot) (pc : Nat), Wd g s w.2 H locs → decode cX11_around pc = .ok (.ireturn, 1) → W p l e (rmm 5 120) s m args below meth c H locs 0 0 Q (F0 m pc ls [.int (w.1)])) {H : Heap} {locs : List Loc} {ls : Array Slot} (Y : Wd g s σ H locs) (hl : lv_has ls 5 [(0, .ref (g.2.2 (101))), (1, .int (x1))]) (h : f_X11_around_0 x1 σ = some w) : W p l e (rmm 5 120) s m args below meth c H locs 0 0 Q (F0 m 0 ls []) := by
  unfold f_X11_around_0 at h
  refine lv_aload_n X.1 X.2.1 (dk T_X11_around 0 rfl) rfl (lv_at hl 0 rfl) ?_
  refine lv_aload_n X.1 X.2.1 (dk T_X11_around 1 rfl) rfl (lv_at hl 0 rfl) ?_
  refine gg X Y fl_X11_7 rfl rfl (dk T_X11_around 2 rfl) ?_
  refine lv_sipush (v := 681) X.1 X.2.1 (dk T_X11_around 3 rfl) sp_681 ?_
  refine lv_iload_n X.1 X.2.1 (dk T_X11_around 4 rfl) rfl (lv_at hl 1 rfl) ?_
  refine lv_iadd X.1 X.2.1 (dk T_X11_around 5 rfl) ?_
  obtain ⟨g1, h⟩ := gd h
  refine gil X Y rfl (inp g1) (dk T_X11_around 6 rfl) ?_
  obtain ⟨q2, hq2, h⟩ := bs h
  refine gvV (rest := []) X Y (c_X11_looks (σ 102 (681 + x1).toNatClampNeg) σ hq2) cb_X11_145 rfl hl.1 rfl rfl (Nat.le_of_ble_eq_true rfl) ⟨Nat.le_of_ble_eq_true rfl, Nat.le_of_ble_eq_true rfl⟩ (dk T_X11_around 7 rfl) (fun H locs Y => ?_)
  refine lv_iconst (v := (-1)) X.1 X.2.1 (dk T_X11_around 8 rfl) ic_m1 ?_
  refine lv_istore_n (lv' := [(2, .int ((-1))), (0, .ref (g.2.2 (101))), (1, .int (x1))]) X.1 X.2.1 (dk T_X11_around 9 rfl) rfl hl (Nat.le_of_ble_eq_true rfl) rfl (fun ls hl => ?_)
  refine lv_iconst (v := 0) X.1 X.2.1 (dk T_X11_around 10 rfl) ic_0 ?_
  refine lv_istore_n (lv' := [(3, .int (0)), (2, .int ((-1))), (0, .ref (g.2.2 (101))), (1, .int (x1))]) X.1 X.2.1 (dk T_X11_around 11 rfl) rfl hl (Nat.le_of_ble_eq_true rfl) rfl (fun ls hl => ?_)
  obtain ⟨q15, hq15, h⟩ := bs h
  refine w_X11_around_l18 X x1 σ (fun v0_ v1_ e H locs ls Y hl => ?_) FU ((-1), 0, q2) Y (lv_sub hl [2, 3, 1, 0] rfl) hq15
  · obtain ⟨rfl, rfl⟩ : v0_ = q15.1 ∧ v1_ = q15.2 := ⟨by rw [e], by rw [e]⟩
    refine lv_iload_n X.1 X.2.1 (dk T_X11_around 57 rfl) rfl (lv_at hl 0 rfl) ?_
    obtain rfl := Option.some.inj h
    exact KR _ _ _ _ Y (dk T_X11_around 58 rfl)
def f_X11_around (x1 : Int32) (σ : St) : Option (Int32 × St) := f_X11_around_0 x1 σ
set_option maxHeartbeats 4000000 in
set_option maxRecDepth 100000 in
theorem c_X11_around {l : Launch} {g : Geo} (x1 : Int32) (σ : St) {w : Int32 × St} (h : f_X11_around x1 σ = some w) : CtI l yX11_around cX11_around 5 (some .int) (rmm 5 120) g [.ref (g.2.2 (101)), .int (x1)] σ w.1 w.2 := enI .int (by decide) rfl rfl (Nat.le_of_ble_eq_true rfl) (fun p e s m args below meth c Q X Y ls hl KR => w_X11_around_0 X x1 σ KR Y hl h)
def I_X11_part : List (Nat × Instr × Nat) := [(0, .aload_n 0, 1), (1, .iconst 0, 1), (2, .putfield 71, 3), (5, .aload_n 0, 1), (6, .iload_n 1, 1), (7, .invokevirtual 224, 3), (10, .ifCond .ne 9, 3), (13, .aload_n 0, 1), (14, .iconst 1, 1), (15, .invokevirtual 91, 3), (18, .ireturn, 1), (19, .iload_n 2, 1), (20, .tableswitch 132 0 7 #[48, 59, 70, 81, 92, 103, 109, 115], 48), (68, .aload_n 0, 1), (69, .getfield 7, 3), (72, .sipush 661, 3), (75, .iload_n 1, 1), (76, .iadd, 1), (77, .iaload, 1), (78, .ireturn, 1), (79, .aload_n 0, 1), (80, .getfield 7, 3), (83, .sipush 681, 3), (86, .iload_n 1, 1), (87, .iadd, 1), (88, .iaload, 1), (89, .ireturn, 1), (90, .aload_n 0, 1), (91, .getfield 7, 3), (94, .sipush 701, 3), (97, .iload_n 1, 1), (98, .iadd, 1), (99, .iaload, 1), (100, .ireturn, 1), (101, .aload_n 0, 1), (102, .getfield 7, 3), (105, .sipush 721, 3), (108, .iload_n 1, 1), (109, .iadd, 1), (110, .iaload, 1), (111, .ireturn, 1), (112, .aload_n 0, 1), (113, .getfield 7, 3), (116, .sipush 741, 3), (119, .iload_n 1, 1), (120, .iadd, 1), (121, .iaload, 1), (122, .ireturn, 1), (123, .aload_n 0, 1), (124, .iload_n 1, 1), (125, .invokevirtual 233, 3), (128, .ireturn, 1), (129, .aload_n 0, 1), (130, .iload_n 1, 1), (131, .invokevirtual 239, 3), (134, .ireturn, 1), (135, .aload_n 0, 1), (136, .aload_n 0, 1), (137, .getfield 7, 3), (140, .sipush 681, 3), (143, .iload_n 1, 1), (144, .iadd, 1), (145, .iaload, 1), (146, .iconst 1, 1), (147, .iload_n 1, 1), (148, .invokevirtual 181, 3), (151, .ireturn, 1), (152, .aload_n 0, 1), (153, .iconst 2, 1), (154, .invokevirtual 91, 3), (157, .ireturn, 1)]
set_option maxRecDepth 100000 in
theorem T_X11_part : ∀ q ∈ I_X11_part, decode cX11_part q.1 = .ok (q.2.1, q.2.2) := by decide +kernel
def f_X11_part_0 (x1 : Int32) (x2 : Int32) (σ : St) : Option (Int32 × St) :=
  (f_X11_isPart x1 (up σ 101 0 0)).bind fun q1 => if q1 = 0 then (f_X11_fails 1 (up σ 101 0 0)).bind fun q21 => some (q21.1, q21.2) else if x2 = 0 then chk (inb (661 + x1) 761) (some ((up σ 101 0 0) 102 (661 + x1).toNatClampNeg, up σ 101 0 0)) else if x2 = 1 then chk (inb (681 + x1) 761) (some ((up σ 101 0 0) 102 (681 + x1).toNatClampNeg, up σ 101 0 0)) else if x2 = 2 then chk (inb (701 + x1) 761) (some ((up σ 101 0 0) 102 (701 + x1).toNatClampNeg, up σ 101 0 0)) else if x2 = 3 then chk (inb (721 + x1) 761) (some ((up σ 101 0 0) 102 (721 + x1).toNatClampNeg, up σ 101 0 0)) else if x2 = 4 then chk (inb (741 + x1) 761) (some ((up σ 101 0 0) 102 (741 + x1).toNatClampNeg, up σ 101 0 0)) else if x2 = 5 then (f_X11_lowestCell x1 (up σ 101 0 0)).bind fun q14 => some (q14, up σ 101 0 0) else if x2 = 6 then (f_X11_around x1 (up σ 101 0 0)).bind fun q16 => some (q16.1, q16.2) else if x2 = 7 then chk (inb (681 + x1) 761) ((f_X11_cutsOf ((up σ 101 0 0) 102 (681 + x1).toNatClampNeg) 1 x1 (up σ 101 0 0)).bind fun q19 => some (q19.1, q19.2)) else (f_X11_fails 2 (up σ 101 0 0)).bind fun q20 => some (q20.1, q20.2)
set_option maxHeartbeats 4000000 in
set_option maxRecDepth 100000 in
theorem w_X11_part_0 (X : Cx g RX11 cX11_part 3 (some .int) p s m args meth c) (x1 : Int32) (x2 : Int32) (σ : St) {w : Int32 × St} (KR : ∀ (H : Heap) (locs : List Loc) (ls : Array Slot) (pc : Nat), Wd g s w.2 H locs → decode cX11_part pc = .ok (.ireturn, 1) → W p l e (rmm 6 144) s m args below meth c H locs 0 0 Q (F0 m pc ls [.int (w.1)])) {H : Heap} {locs : List Loc} {ls : Array Slot} (Y : Wd g s σ H locs) (hl : lv_has ls 3 [(0, .ref (g.2.2 (101))), (1, .int (x1)), (2, .int (x2))]) (h : f_X11_part_0 x1 x2 σ = some w) : W p l e (rmm 6 144) s m args below meth c H locs 0 0 Q (F0 m 0 ls []) := by
  unfold f_X11_part_0 at h
  refine lv_aload_n X.1 X.2.1 (dk T_X11_part 0 rfl) rfl (lv_at hl 0 rfl) ?_
  refine lv_iconst (v := 0) X.1 X.2.1 (dk T_X11_part 1 rfl) ic_0 ?_
  refine gp X Y fp_X11_71 rfl (nar_int _) (dk T_X11_part 2 rfl) (fun H locs Y => ?_)
  refine lv_aload_n X.1 X.2.1 (dk T_X11_part 3 rfl) rfl (lv_at hl 0 rfl) ?_
  refine lv_iload_n X.1 X.2.1 (dk T_X11_part 4 rfl) rfl (lv_at hl 1 rfl) ?_
  obtain ⟨q1, hq1, h⟩ := bs h
  refine gvI (rest := []) X Y (c_X11_isPart x1 (up σ 101 0 0) hq1) cb_X11_224 rfl hl.1 rfl rfl (Nat.le_of_ble_eq_true rfl) ⟨Nat.le_of_ble_eq_true rfl, Nat.le_of_ble_eq_true rfl⟩ (dk T_X11_part 5 rfl) (fun H locs Y => ?_)
  refine lv_if_ne (tgt := 19) X.1 X.2.1 (dk T_X11_part 6 rfl) rfl (fun c2 => ?_) (fun c2 => ?_)
  · replace h := ineg c2 h
    refine lv_iload_n X.1 X.2.1 (dk T_X11_part 11 rfl) rfl (lv_at hl 2 rfl) ?_
    rcases Decidable.em (x2 = 0) with c3 | c3
    · replace h := ipos c3 h
      refine lv_tableIn (tgt := 68) (off := 48) X.1 X.2.1 (dk T_X11_part 12 rfl) (ts1 c3 (by decide)) (ts2 c3 (by decide)) (ts3 c3 (by decide)) rfl ?_
      refine lv_aload_n X.1 X.2.1 (dk T_X11_part 13 rfl) rfl (lv_at hl 0 rfl) ?_
      refine gg X Y fl_X11_7 rfl rfl (dk T_X11_part 14 rfl) ?_
      refine lv_sipush (v := 661) X.1 X.2.1 (dk T_X11_part 15 rfl) sp_661 ?_
      refine lv_iload_n X.1 X.2.1 (dk T_X11_part 16 rfl) rfl (lv_at hl 1 rfl) ?_
      refine lv_iadd X.1 X.2.1 (dk T_X11_part 17 rfl) ?_
      obtain ⟨g4, h⟩ := gd h
      refine gil X Y rfl (inp g4) (dk T_X11_part 18 rfl) ?_
      obtain rfl := Option.some.inj h
      exact KR _ _ _ _ Y (dk T_X11_part 19 rfl)
    replace h := ineg c3 h
    rcases Decidable.em (x2 = 1) with c5 | c5
    · replace h := ipos c5 h
      refine lv_tableIn (tgt := 79) (off := 59) X.1 X.2.1 (dk T_X11_part 12 rfl) (ts1 c5 (by decide)) (ts2 c5 (by decide)) (ts3 c5 (by decide)) rfl ?_
      refine lv_aload_n X.1 X.2.1 (dk T_X11_part 20 rfl) rfl (lv_at hl 0 rfl) ?_
      refine gg X Y fl_X11_7 rfl rfl (dk T_X11_part 21 rfl) ?_
      refine lv_sipush (v := 681) X.1 X.2.1 (dk T_X11_part 22 rfl) sp_681 ?_
      refine lv_iload_n X.1 X.2.1 (dk T_X11_part 23 rfl) rfl (lv_at hl 1 rfl) ?_
      refine lv_iadd X.1 X.2.1 (dk T_X11_part 24 rfl) ?_
      obtain ⟨g6, h⟩ := gd h
      refine gil X Y rfl (inp g6) (dk T_X11_part 25 rfl) ?_
      obtain rfl := Option.some.inj h
      exact KR _ _ _ _ Y (dk T_X11_part 26 rfl)
    replace h := ineg c5 h
    rcases Decidable.em (x2 = 2) with c7 | c7
    · replace h := ipos c7 h
      refine lv_tableIn (tgt := 90) (off := 70) X.1 X.2.1 (dk T_X11_part 12 rfl) (ts1 c7 (by decide)) (ts2 c7 (by decide)) (ts3 c7 (by decide)) rfl ?_
      refine lv_aload_n X.1 X.2.1 (dk T_X11_part 27 rfl) rfl (lv_at hl 0 rfl) ?_
      refine gg X Y fl_X11_7 rfl rfl (dk T_X11_part 28 rfl) ?_
      refine lv_sipush (v := 701) X.1 X.2.1 (dk T_X11_part 29 rfl) sp_701 ?_
      refine lv_iload_n X.1 X.2.1 (dk T_X11_part 30 rfl) rfl (lv_at hl 1 rfl) ?_
      refine lv_iadd X.1 X.2.1 (dk T_X11_part 31 rfl) ?_
      obtain ⟨g8, h⟩ := gd h
      refine gil X Y rfl (inp g8) (dk T_X11_part 32 rfl) ?_
      obtain rfl := Option.some.inj h
      exact KR _ _ _ _ Y (dk T_X11_part 33 rfl)
    replace h := ineg c7 h
    rcases Decidable.em (x2 = 3) with c9 | c9
    · replace h := ipos c9 h
      refine lv_tableIn (tgt := 101) (off := 81) X.1 X.2.1 (dk T_X11_part 12 rfl) (ts1 c9 (by decide)) (ts2 c9 (by decide)) (ts3 c9 (by decide)) rfl ?_
      refine lv_aload_n X.1 X.2.1 (dk T_X11_part 34 rfl) rfl (lv_at hl 0 rfl) ?_
      refine gg X Y fl_X11_7 rfl rfl (dk T_X11_part 35 rfl) ?_
      refine lv_sipush (v := 721) X.1 X.2.1 (dk T_X11_part 36 rfl) sp_721 ?_
      refine lv_iload_n X.1 X.2.1 (dk T_X11_part 37 rfl) rfl (lv_at hl 1 rfl) ?_
      refine lv_iadd X.1 X.2.1 (dk T_X11_part 38 rfl) ?_
      obtain ⟨g10, h⟩ := gd h
      refine gil X Y rfl (inp g10) (dk T_X11_part 39 rfl) ?_
      obtain rfl := Option.some.inj h
      exact KR _ _ _ _ Y (dk T_X11_part 40 rfl)
    replace h := ineg c9 h
    rcases Decidable.em (x2 = 4) with c11 | c11
    · replace h := ipos c11 h
      refine lv_tableIn (tgt := 112) (off := 92) X.1 X.2.1 (dk T_X11_part 12 rfl) (ts1 c11 (by decide)) (ts2 c11 (by decide)) (ts3 c11 (by decide)) rfl ?_
      refine lv_aload_n X.1 X.2.1 (dk T_X11_part 41 rfl) rfl (lv_at hl 0 rfl) ?_
      refine gg X Y fl_X11_7 rfl rfl (dk T_X11_part 42 rfl) ?_
      refine lv_sipush (v := 741) X.1 X.2.1 (dk T_X11_part 43 rfl) sp_741 ?_
      refine lv_iload_n X.1 X.2.1 (dk T_X11_part 44 rfl) rfl (lv_at hl 1 rfl) ?_
      refine lv_iadd X.1 X.2.1 (dk T_X11_part 45 rfl) ?_
      obtain ⟨g12, h⟩ := gd h
      refine gil X Y rfl (inp g12) (dk T_X11_part 46 rfl) ?_
      obtain rfl := Option.some.inj h
      exact KR _ _ _ _ Y (dk T_X11_part 47 rfl)
    replace h := ineg c11 h
    rcases Decidable.em (x2 = 5) with c13 | c13
    · replace h := ipos c13 h
      refine lv_tableIn (tgt := 123) (off := 103) X.1 X.2.1 (dk T_X11_part 12 rfl) (ts1 c13 (by decide)) (ts2 c13 (by decide)) (ts3 c13 (by decide)) rfl ?_
      refine lv_aload_n X.1 X.2.1 (dk T_X11_part 48 rfl) rfl (lv_at hl 0 rfl) ?_
      refine lv_iload_n X.1 X.2.1 (dk T_X11_part 49 rfl) rfl (lv_at hl 1 rfl) ?_
      obtain ⟨q14, hq14, h⟩ := bs h
      refine gvI (rest := []) X Y (c_X11_lowestCell x1 (up σ 101 0 0) hq14) cb_X11_233 rfl hl.1 rfl rfl (Nat.le_of_ble_eq_true rfl) ⟨Nat.le_of_ble_eq_true rfl, Nat.le_of_ble_eq_true rfl⟩ (dk T_X11_part 50 rfl) (fun H locs Y => ?_)
      obtain rfl := Option.some.inj h
      exact KR _ _ _ _ Y (dk T_X11_part 51 rfl)
    replace h := ineg c13 h
    rcases Decidable.em (x2 = 6) with c15 | c15
    · replace h := ipos c15 h
      refine lv_tableIn (tgt := 129) (off := 109) X.1 X.2.1 (dk T_X11_part 12 rfl) (ts1 c15 (by decide)) (ts2 c15 (by decide)) (ts3 c15 (by decide)) rfl ?_
      refine lv_aload_n X.1 X.2.1 (dk T_X11_part 52 rfl) rfl (lv_at hl 0 rfl) ?_
      refine lv_iload_n X.1 X.2.1 (dk T_X11_part 53 rfl) rfl (lv_at hl 1 rfl) ?_
      obtain ⟨q16, hq16, h⟩ := bs h
      refine gvI (rest := []) X Y (c_X11_around x1 (up σ 101 0 0) hq16) cb_X11_239 rfl hl.1 rfl rfl (Nat.le_of_ble_eq_true rfl) ⟨Nat.le_of_ble_eq_true rfl, Nat.le_of_ble_eq_true rfl⟩ (dk T_X11_part 54 rfl) (fun H locs Y => ?_)
      obtain rfl := Option.some.inj h
      exact KR _ _ _ _ Y (dk T_X11_part 55 rfl)
    replace h := ineg c15 h
    rcases Decidable.em (x2 = 7) with c17 | c17
    · replace h := ipos c17 h
      refine lv_tableIn (tgt := 135) (off := 115) X.1 X.2.1 (dk T_X11_part 12 rfl) (ts1 c17 (by decide)) (ts2 c17 (by decide)) (ts3 c17 (by decide)) rfl ?_
      refine lv_aload_n X.1 X.2.1 (dk T_X11_part 56 rfl) rfl (lv_at hl 0 rfl) ?_
      refine lv_aload_n X.1 X.2.1 (dk T_X11_part 57 rfl) rfl (lv_at hl 0 rfl) ?_
      refine gg X Y fl_X11_7 rfl rfl (dk T_X11_part 58 rfl) ?_
      refine lv_sipush (v := 681) X.1 X.2.1 (dk T_X11_part 59 rfl) sp_681 ?_
      refine lv_iload_n X.1 X.2.1 (dk T_X11_part 60 rfl) rfl (lv_at hl 1 rfl) ?_
      refine lv_iadd X.1 X.2.1 (dk T_X11_part 61 rfl) ?_
      obtain ⟨g18, h⟩ := gd h
      refine gil X Y rfl (inp g18) (dk T_X11_part 62 rfl) ?_
      refine lv_iconst (v := 1) X.1 X.2.1 (dk T_X11_part 63 rfl) ic_1 ?_
      refine lv_iload_n X.1 X.2.1 (dk T_X11_part 64 rfl) rfl (lv_at hl 1 rfl) ?_
      obtain ⟨q19, hq19, h⟩ := bs h
      refine gvI (rest := []) X Y (c_X11_cutsOf ((up σ 101 0 0) 102 (681 + x1).toNatClampNeg) 1 x1 (up σ 101 0 0) hq19) cb_X11_181 rfl hl.1 rfl rfl (Nat.le_of_ble_eq_true rfl) ⟨Nat.le_of_ble_eq_true rfl, Nat.le_of_ble_eq_true rfl⟩ (dk T_X11_part 65 rfl) (fun H locs Y => ?_)
      obtain rfl := Option.some.inj h
      exact KR _ _ _ _ Y (dk T_X11_part 66 rfl)
    replace h := ineg c17 h
    refine lv_tableOut (tgt := 152) X.1 X.2.1 (dk T_X11_part 12 rfl) (ts8n c3 c5 c7 c9 c11 c13 c15 c17) rfl ?_
    refine lv_aload_n X.1 X.2.1 (dk T_X11_part 67 rfl) rfl (lv_at hl 0 rfl) ?_
    refine lv_iconst (v := 2) X.1 X.2.1 (dk T_X11_part 68 rfl) ic_2 ?_
    obtain ⟨q20, hq20, h⟩ := bs h
    refine gvI (rest := []) X Y (c_X11_fails 2 (up σ 101 0 0) hq20) cb_X11_91 rfl hl.1 rfl rfl (Nat.le_of_ble_eq_true rfl) ⟨Nat.le_of_ble_eq_true rfl, Nat.le_of_ble_eq_true rfl⟩ (dk T_X11_part 69 rfl) (fun H locs Y => ?_)
    obtain rfl := Option.some.inj h
    exact KR _ _ _ _ Y (dk T_X11_part 70 rfl)
  · replace h := ipos c2 h
    refine lv_aload_n X.1 X.2.1 (dk T_X11_part 7 rfl) rfl (lv_at hl 0 rfl) ?_
    refine lv_iconst (v := 1) X.1 X.2.1 (dk T_X11_part 8 rfl) ic_1 ?_
    obtain ⟨q21, hq21, h⟩ := bs h
    refine gvI (rest := []) X Y (c_X11_fails 1 (up σ 101 0 0) hq21) cb_X11_91 rfl hl.1 rfl rfl (Nat.le_of_ble_eq_true rfl) ⟨Nat.le_of_ble_eq_true rfl, Nat.le_of_ble_eq_true rfl⟩ (dk T_X11_part 9 rfl) (fun H locs Y => ?_)
    obtain rfl := Option.some.inj h
    exact KR _ _ _ _ Y (dk T_X11_part 10 rfl)
def f_X11_part (x1 : Int32) (x2 : Int32) (σ : St) : Option (Int32 × St) := f_X11_part_0 x1 x2 σ
set_option maxHeartbeats 4000000 in
set_option maxRecDepth 100000 in
theorem c_X11_part {l : Launch} {g : Geo} (x1 : Int32) (x2 : Int32) (σ : St) {w : Int32 × St} (h : f_X11_part x1 x2 σ = some w) : CtI l yX11_part cX11_part 3 (some .int) (rmm 6 144) g [.ref (g.2.2 (101)), .int (x1), .int (x2)] σ w.1 w.2 := enI .int (by decide) rfl rfl (Nat.le_of_ble_eq_true rfl) (fun p e s m args below meth c Q X Y ls hl KR => w_X11_part_0 X x1 x2 σ KR Y hl h)
def I_X11_reason : List (Nat × Instr × Nat) := [(0, .aload_n 0, 1), (1, .iload_n 1, 1), (2, .iconst 0, 1), (3, .aload_n 0, 1), (4, .getfield 218, 3), (7, .iconst 1, 1), (8, .isub, 1), (9, .invokestatic 75, 3), (12, .ifCond .eq 7, 3), (15, .iconst 0, 1), (16, .goto 4, 3), (19, .iconst 1, 1), (20, .putfield 71, 3), (23, .aload_n 0, 1), (24, .getfield 71, 3), (27, .ifCond .le 7, 3), (30, .iconst 0, 1), (31, .goto 22, 3), (34, .iload_n 2, 1), (35, .ifCond .eq 12, 3), (38, .aload_n 0, 1), (39, .getfield 28, 3), (42, .iload_n 1, 1), (43, .iaload, 1), (44, .goto 9, 3), (47, .aload_n 0, 1), (48, .getfield 25, 3), (51, .iload_n 1, 1), (52, .iaload, 1), (53, .ireturn, 1)]
set_option maxRecDepth 100000 in
theorem T_X11_reason : ∀ q ∈ I_X11_reason, decode cX11_reason q.1 = .ok (q.2.1, q.2.2) := by decide +kernel
def f_X11_reason_j20 (x1 : Int32) (x2 : Int32) (s0 : Int32) (σ : St) : Option (Int32 × St) :=
  if (up σ 101 0 s0 101 0) ≤ 0 then if x2 = 0 then chk (inb x1 3) (some ((up σ 101 0 s0) 107 x1.toNatClampNeg, up σ 101 0 s0)) else chk (inb x1 3) (some ((up σ 101 0 s0) 108 x1.toNatClampNeg, up σ 101 0 s0)) else some (0, up σ 101 0 s0)
set_option maxHeartbeats 4000000 in
set_option maxRecDepth 100000 in
theorem w_X11_reason_j20 (X : Cx g RX11 cX11_reason 3 (some .int) p s m args meth c) (x1 : Int32) (x2 : Int32) (s0 : Int32) (σ : St) {w : Int32 × St} (KR : ∀ (H : Heap) (locs : List Loc) (ls : Array Slot) (pc : Nat), Wd g s w.2 H locs → decode cX11_reason pc = .ok (.ireturn, 1) → W p l e (rmm 1 22) s m args below meth c H locs 0 0 Q (F0 m pc ls [.int (w.1)])) {H : Heap} {locs : List Loc} {ls : Array Slot} (Y : Wd g s σ H locs) (hl : lv_has ls 3 [(0, .ref (g.2.2 (101))), (1, .int (x1)), (2, .int (x2))]) (h : f_X11_reason_j20 x1 x2 s0 σ = some w) : W p l e (rmm 1 22) s m args below meth c H locs 0 0 Q (F0 m 20 ls [.int (s0), .ref (g.2.2 (101))]) := by
  unfold f_X11_reason_j20 at h
  refine gp X Y fp_X11_71 rfl (nar_int _) (dk T_X11_reason 12 rfl) (fun H locs Y => ?_)
  refine lv_aload_n X.1 X.2.1 (dk T_X11_reason 13 rfl) rfl (lv_at hl 0 rfl) ?_
  refine gg X Y fl_X11_71 rfl rfl (dk T_X11_reason 14 rfl) ?_
  refine lv_if_le (tgt := 34) X.1 X.2.1 (dk T_X11_reason 15 rfl) rfl (fun c3 => ?_) (fun c3 => ?_)
  · replace h := ipos c3 h
    refine lv_iload_n X.1 X.2.1 (dk T_X11_reason 18 rfl) rfl (lv_at hl 2 rfl) ?_
    refine lv_if_eq (tgt := 47) X.1 X.2.1 (dk T_X11_reason 19 rfl) rfl (fun c4 => ?_) (fun c4 => ?_)
    · replace h := ipos c4 h
      refine lv_aload_n X.1 X.2.1 (dk T_X11_reason 25 rfl) rfl (lv_at hl 0 rfl) ?_
      refine gg X Y fl_X11_25 rfl rfl (dk T_X11_reason 26 rfl) ?_
      refine lv_iload_n X.1 X.2.1 (dk T_X11_reason 27 rfl) rfl (lv_at hl 1 rfl) ?_
      obtain ⟨g5, h⟩ := gd h
      refine gil X Y rfl (inp g5) (dk T_X11_reason 28 rfl) ?_
      obtain rfl := Option.some.inj h
      exact KR _ _ _ _ Y (dk T_X11_reason 29 rfl)
    · replace h := ineg c4 h
      refine lv_aload_n X.1 X.2.1 (dk T_X11_reason 20 rfl) rfl (lv_at hl 0 rfl) ?_
      refine gg X Y fl_X11_28 rfl rfl (dk T_X11_reason 21 rfl) ?_
      refine lv_iload_n X.1 X.2.1 (dk T_X11_reason 22 rfl) rfl (lv_at hl 1 rfl) ?_
      obtain ⟨g6, h⟩ := gd h
      refine gil X Y rfl (inp g6) (dk T_X11_reason 23 rfl) ?_
      refine lv_goto (tgt := 53) X.1 X.2.1 (dk T_X11_reason 24 rfl) rfl ?_
      obtain rfl := Option.some.inj h
      exact KR _ _ _ _ Y (dk T_X11_reason 29 rfl)
  · replace h := ineg c3 h
    refine lv_iconst (v := 0) X.1 X.2.1 (dk T_X11_reason 16 rfl) ic_0 ?_
    refine lv_goto (tgt := 53) X.1 X.2.1 (dk T_X11_reason 17 rfl) rfl ?_
    obtain rfl := Option.some.inj h
    exact KR _ _ _ _ Y (dk T_X11_reason 29 rfl)
def f_X11_reason_0 (x1 : Int32) (x2 : Int32) (σ : St) : Option (Int32 × St) :=
  (f_X11_in x1 0 ((σ 101 13) - 1)).bind fun q1 => if q1 = 0 then f_X11_reason_j20 x1 x2 1 σ else f_X11_reason_j20 x1 x2 0 σ
set_option maxHeartbeats 4000000 in
set_option maxRecDepth 100000 in
theorem w_X11_reason_0 (X : Cx g RX11 cX11_reason 3 (some .int) p s m args meth c) (x1 : Int32) (x2 : Int32) (σ : St) {w : Int32 × St} (KR : ∀ (H : Heap) (locs : List Loc) (ls : Array Slot) (pc : Nat), Wd g s w.2 H locs → decode cX11_reason pc = .ok (.ireturn, 1) → W p l e (rmm 1 22) s m args below meth c H locs 0 0 Q (F0 m pc ls [.int (w.1)])) {H : Heap} {locs : List Loc} {ls : Array Slot} (Y : Wd g s σ H locs) (hl : lv_has ls 3 [(0, .ref (g.2.2 (101))), (1, .int (x1)), (2, .int (x2))]) (h : f_X11_reason_0 x1 x2 σ = some w) : W p l e (rmm 1 22) s m args below meth c H locs 0 0 Q (F0 m 0 ls []) := by
  unfold f_X11_reason_0 at h
  refine lv_aload_n X.1 X.2.1 (dk T_X11_reason 0 rfl) rfl (lv_at hl 0 rfl) ?_
  refine lv_iload_n X.1 X.2.1 (dk T_X11_reason 1 rfl) rfl (lv_at hl 1 rfl) ?_
  refine lv_iconst (v := 0) X.1 X.2.1 (dk T_X11_reason 2 rfl) ic_0 ?_
  refine lv_aload_n X.1 X.2.1 (dk T_X11_reason 3 rfl) rfl (lv_at hl 0 rfl) ?_
  refine gg X Y fl_X11_218 rfl rfl (dk T_X11_reason 4 rfl) ?_
  refine lv_iconst (v := 1) X.1 X.2.1 (dk T_X11_reason 5 rfl) ic_1 ?_
  refine lv_isub X.1 X.2.1 (dk T_X11_reason 6 rfl) ?_
  obtain ⟨q1, hq1, h⟩ := bs h
  refine gsI (rest := [.ref (g.2.2 (101))]) X Y (c_X11_in x1 0 ((σ 101 13) - 1) σ hq1) cb_X11_75 hl.1 rfl rfl (Nat.le_of_ble_eq_true rfl) ⟨Nat.le_of_ble_eq_true rfl, Nat.le_of_ble_eq_true rfl⟩ (dk T_X11_reason 7 rfl) (fun H locs Y => ?_)
  refine lv_if_eq (tgt := 19) X.1 X.2.1 (dk T_X11_reason 8 rfl) rfl (fun c2 => ?_) (fun c2 => ?_)
  · replace h := ipos c2 h
    refine lv_iconst (v := 1) X.1 X.2.1 (dk T_X11_reason 11 rfl) ic_1 ?_
    exact w_X11_reason_j20 X x1 x2 1 σ KR Y (lv_sub hl [0, 1, 2] rfl) h
  · replace h := ineg c2 h
    refine lv_iconst (v := 0) X.1 X.2.1 (dk T_X11_reason 9 rfl) ic_0 ?_
    refine lv_goto (tgt := 20) X.1 X.2.1 (dk T_X11_reason 10 rfl) rfl ?_
    exact w_X11_reason_j20 X x1 x2 0 σ KR Y (lv_sub hl [0, 1, 2] rfl) h
def f_X11_reason (x1 : Int32) (x2 : Int32) (σ : St) : Option (Int32 × St) := f_X11_reason_0 x1 x2 σ
set_option maxHeartbeats 4000000 in
set_option maxRecDepth 100000 in
theorem c_X11_reason {l : Launch} {g : Geo} (x1 : Int32) (x2 : Int32) (σ : St) {w : Int32 × St} (h : f_X11_reason x1 x2 σ = some w) : CtI l yX11_reason cX11_reason 3 (some .int) (rmm 1 22) g [.ref (g.2.2 (101)), .int (x1), .int (x2)] σ w.1 w.2 := enI .int (by decide) rfl rfl (Nat.le_of_ble_eq_true rfl) (fun p e s m args below meth c Q X Y ls hl KR => w_X11_reason_0 X x1 x2 σ KR Y hl h)
def I_X11_commonOf : List (Nat × Instr × Nat) := [(0, .aload_n 0, 1), (1, .iload_n 1, 1), (2, .iload 5, 2), (4, .invokevirtual 136, 3), (7, .istore 6, 2), (9, .aload_n 0, 1), (10, .iload_n 1, 1), (11, .iload 5, 2), (13, .invokevirtual 126, 3), (16, .istore 7, 2), (18, .aload_n 0, 1), (19, .getfield 7, 3), (22, .iconst 3, 1), (23, .iload_n 2, 1), (24, .iadd, 1), (25, .iaload, 1), (26, .istore 8, 2), (28, .iconst 0, 1), (29, .istore 9, 2), (31, .iconst 0, 1), (32, .istore 10, 2), (34, .iload 10, 2), (36, .bipush 16, 2), (38, .if_icmp .ge 173, 3), (41, .iload 6, 2), (43, .iload 10, 2), (45, .invokestatic 105, 3), (48, .ifCond .eq 157, 3), (51, .iload 8, 2), (53, .iload_n 3, 1), (54, .iload 10, 2), (56, .iload 7, 2), (58, .irem, 1), (59, .iadd, 1), (60, .iload 4, 2), (62, .iload 10, 2), (64, .iload 7, 2), (66, .idiv, 1), (67, .iadd, 1), (68, .invokestatic 102, 3), (71, .istore 11, 2), (73, .iload 9, 2), (75, .iload 11, 2), (77, .iload 8, 2), (79, .irem, 1), (80, .ifCond .le 20, 3), (83, .aload_n 0, 1), (84, .getfield 37, 3), (87, .iload 11, 2), (89, .iconst 1, 1), (90, .isub, 1), (91, .iaload, 1), (92, .iconst (-1), 1), (93, .if_icmp .eq 7, 3), (96, .iconst 1, 1), (97, .goto 4, 3), (100, .iconst 0, 1), (101, .iadd, 1), (102, .istore 9, 2), (104, .iload 9, 2), (106, .iload 11, 2), (108, .iconst 1, 1), (109, .iadd, 1), (110, .iload 8, 2), (112, .irem, 1), (113, .ifCond .le 20, 3), (116, .aload_n 0, 1), (117, .getfield 37, 3), (120, .iload 11, 2), (122, .iconst 1, 1), (123, .iadd, 1), (124, .iaload, 1), (125, .iconst (-1), 1), (126, .if_icmp .eq 7, 3), (129, .iconst 1, 1), (130, .goto 4, 3), (133, .iconst 0, 1), (134, .iadd, 1), (135, .istore 9, 2), (137, .iload 9, 2), (139, .iload 11, 2), (141, .iload 8, 2), (143, .if_icmp .lt 21, 3), (146, .aload_n 0, 1), (147, .getfield 37, 3), (150, .iload 11, 2), (152, .iload 8, 2), (154, .isub, 1), (155, .iaload, 1), (156, .iconst (-1), 1), (157, .if_icmp .eq 7, 3), (160, .iconst 1, 1), (161, .goto 4, 3), (164, .iconst 0, 1), (165, .iadd, 1), (166, .istore 9, 2), (168, .iload 9, 2), (170, .iload 11, 2), (172, .iload 8, 2), (174, .iadd, 1), (175, .aload_n 0, 1), (176, .iload_n 2, 1), (177, .invokevirtual 149, 3), (180, .if_icmp .ge 21, 3), (183, .aload_n 0, 1), (184, .getfield 37, 3), (187, .iload 11, 2), (189, .iload 8, 2), (191, .iadd, 1), (192, .iaload, 1), (193, .iconst (-1), 1), (194, .if_icmp .eq 7, 3), (197, .iconst 1, 1), (198, .goto 4, 3), (201, .iconst 0, 1), (202, .iadd, 1), (203, .istore 9, 2), (205, .iinc 10 1, 3), (208, .goto (-174), 3), (211, .iload 9, 2), (213, .ireturn, 1)]
set_option maxRecDepth 100000 in
theorem T_X11_commonOf : ∀ q ∈ I_X11_commonOf, decode cX11_commonOf q.1 = .ok (q.2.1, q.2.2) := by decide +kernel
def f_X11_commonOf_j205 (x2 : Int32) (x3 : Int32) (x4 : Int32) (x6 : Int32) (x7 : Int32) (x8 : Int32) (x9 : Int32) (x10 : Int32) (σ : St) : Option ((Int32 × Int32) ⊕ (Int32)) :=
  some (.inl (x9, x10 + 1))
set_option maxHeartbeats 4000000 in
set_option maxRecDepth 100000 in
theorem w_X11_commonOf_j205 (X : Cx g RX11 cX11_commonOf 12 (some .int) p s m args meth c) (x2 : Int32) (x3 : Int32) (x4 : Int32) (x6 : Int32) (x7 : Int32) (x8 : Int32) (x9 : Int32) (x10 : Int32) (σ : St) {w : (Int32 × Int32) ⊕ (Int32)} (KB : ∀ (v0_ : Int32) (v1_ : Int32), w = .inl (v0_, v1_) → ∀ (H : Heap) (locs : List Loc) (ls : Array Slot), Wd g s σ H locs → lv_has ls 12 [(0, .ref (g.2.2 (101))), (2, .int (x2)), (3, .int (x3)), (4, .int (x4)), (6, .int (x6)), (7, .int (x7)), (8, .int (x8)), (9, .int (v0_)), (10, .int (v1_))] → W p l e (rmm 3 71) s m args below meth c H locs 0 0 Q (F0 m 34 ls [])) (KX0 : ∀ (v : Int32), w = .inr v → ∀ (H : Heap) (locs : List Loc) (ls : Array Slot), Wd g s σ H locs → lv_has ls 12 [(9, .int (v))] → W p l e (rmm 3 71) s m args below meth c H locs 0 0 Q (F0 m 211 ls [])) {H : Heap} {locs : List Loc} {ls : Array Slot} (Y : Wd g s σ H locs) (hl : lv_has ls 12 [(0, .ref (g.2.2 (101))), (2, .int (x2)), (3, .int (x3)), (4, .int (x4)), (6, .int (x6)), (7, .int (x7)), (8, .int (x8)), (9, .int (x9)), (10, .int (x10))]) (h : f_X11_commonOf_j205 x2 x3 x4 x6 x7 x8 x9 x10 σ = some w) : W p l e (rmm 3 71) s m args below meth c H locs 0 0 Q (F0 m 205 ls []) := by
  unfold f_X11_commonOf_j205 at h
  refine lv_iinc (v := x10 + 1) (lv' := [(10, .int (x10 + 1)), (0, .ref (g.2.2 (101))), (2, .int (x2)), (3, .int (x3)), (4, .int (x4)), (6, .int (x6)), (7, .int (x7)), (8, .int (x8)), (9, .int (x9))]) X.1 X.2.1 (dk T_X11_commonOf 117 rfl) hl (k := 8) rfl (icx ic_1) (Nat.le_of_ble_eq_true rfl) rfl (fun ls hl => ?_)
  refine lv_goto (tgt := 34) X.1 X.2.1 (dk T_X11_commonOf 118 rfl) rfl ?_
  exact KB x9 (x10 + 1) (Option.some.inj h).symm _ _ _ Y (lv_sub hl [1, 2, 3, 4, 5, 6, 7, 8, 0] rfl)
def f_X11_commonOf_j202 (x2 : Int32) (x3 : Int32) (x4 : Int32) (x6 : Int32) (x7 : Int32) (x8 : Int32) (x10 : Int32) (s0 : Int32) (s1 : Int32) (σ : St) : Option ((Int32 × Int32) ⊕ (Int32)) :=
  f_X11_commonOf_j205 x2 x3 x4 x6 x7 x8 (s1 + s0) x10 σ
set_option maxHeartbeats 4000000 in
set_option maxRecDepth 100000 in
theorem w_X11_commonOf_j202 (X : Cx g RX11 cX11_commonOf 12 (some .int) p s m args meth c) (x2 : Int32) (x3 : Int32) (x4 : Int32) (x6 : Int32) (x7 : Int32) (x8 : Int32) (x10 : Int32) (s0 : Int32) (s1 : Int32) (σ : St) {w : (Int32 × Int32) ⊕ (Int32)} (KB : ∀ (v0_ : Int32) (v1_ : Int32), w = .inl (v0_, v1_) → ∀ (H : Heap) (locs : List Loc) (ls : Array Slot), Wd g s σ H locs → lv_has ls 12 [(0, .ref (g.2.2 (101))), (2, .int (x2)), (3, .int (x3)), (4, .int (x4)), (6, .int (x6)), (7, .int (x7)), (8, .int (x8)), (9, .int (v0_)), (10, .int (v1_))] → W p l e (rmm 3 71) s m args below meth c H locs 0 0 Q (F0 m 34 ls [])) (KX0 : ∀ (v : Int32), w = .inr v → ∀ (H : Heap) (locs : List Loc) (ls : Array Slot), Wd g s σ H locs → lv_has ls 12 [(9, .int (v))] → W p l e (rmm 3 71) s m args below meth c H locs 0 0 Q (F0 m 211 ls [])) {H : Heap} {locs : List Loc} {ls : Array Slot} (Y : Wd g s σ H locs) (hl : lv_has ls 12 [(0, .ref (g.2.2 (101))), (2, .int (x2)), (3, .int (x3)), (4, .int (x4)), (6, .int (x6)), (7, .int (x7)), (8, .int (x8)), (10, .int (x10))]) (h : f_X11_commonOf_j202 x2 x3 x4 x6 x7 x8 x10 s0 s1 σ = some w) : W p l e (rmm 3 71) s m args below meth c H locs 0 0 Q (F0 m 202 ls [.int (s0), .int (s1)]) := by
  unfold f_X11_commonOf_j202 at h
  refine lv_iadd X.1 X.2.1 (dk T_X11_commonOf 115 rfl) ?_
  refine lv_istore (lv' := [(9, .int (s1 + s0)), (0, .ref (g.2.2 (101))), (2, .int (x2)), (3, .int (x3)), (4, .int (x4)), (6, .int (x6)), (7, .int (x7)), (8, .int (x8)), (10, .int (x10))]) X.1 X.2.1 (dk T_X11_commonOf 116 rfl) hl (Nat.le_of_ble_eq_true rfl) rfl (fun ls hl => ?_)
  exact w_X11_commonOf_j205 X x2 x3 x4 x6 x7 x8 (s1 + s0) x10 σ KB KX0 Y (lv_sub hl [1, 2, 3, 4, 5, 6, 7, 0, 8] rfl) h
def f_X11_commonOf_j201 (x2 : Int32) (x3 : Int32) (x4 : Int32) (x6 : Int32) (x7 : Int32) (x8 : Int32) (x10 : Int32) (s0 : Int32) (σ : St) : Option ((Int32 × Int32) ⊕ (Int32)) :=
  f_X11_commonOf_j202 x2 x3 x4 x6 x7 x8 x10 0 s0 σ
set_option maxHeartbeats 4000000 in
set_option maxRecDepth 100000 in
theorem w_X11_commonOf_j201 (X : Cx g RX11 cX11_commonOf 12 (some .int) p s m args meth c) (x2 : Int32) (x3 : Int32) (x4 : Int32) (x6 : Int32) (x7 : Int32) (x8 : Int32) (x10 : Int32) (s0 : Int32) (σ : St) {w : (Int32 × Int32) ⊕ (Int32)} (KB : ∀ (v0_ : Int32) (v1_ : Int32), w = .inl (v0_, v1_) → ∀ (H : Heap) (locs : List Loc) (ls : Array Slot), Wd g s σ H locs → lv_has ls 12 [(0, .ref (g.2.2 (101))), (2, .int (x2)), (3, .int (x3)), (4, .int (x4)), (6, .int (x6)), (7, .int (x7)), (8, .int (x8)), (9, .int (v0_)), (10, .int (v1_))] → W p l e (rmm 3 71) s m args below meth c H locs 0 0 Q (F0 m 34 ls [])) (KX0 : ∀ (v : Int32), w = .inr v → ∀ (H : Heap) (locs : List Loc) (ls : Array Slot), Wd g s σ H locs → lv_has ls 12 [(9, .int (v))] → W p l e (rmm 3 71) s m args below meth c H locs 0 0 Q (F0 m 211 ls [])) {H : Heap} {locs : List Loc} {ls : Array Slot} (Y : Wd g s σ H locs) (hl : lv_has ls 12 [(0, .ref (g.2.2 (101))), (2, .int (x2)), (3, .int (x3)), (4, .int (x4)), (6, .int (x6)), (7, .int (x7)), (8, .int (x8)), (10, .int (x10))]) (h : f_X11_commonOf_j201 x2 x3 x4 x6 x7 x8 x10 s0 σ = some w) : W p l e (rmm 3 71) s m args below meth c H locs 0 0 Q (F0 m 201 ls [.int (s0)]) := by
  unfold f_X11_commonOf_j201 at h
  refine lv_iconst (v := 0) X.1 X.2.1 (dk T_X11_commonOf 114 rfl) ic_0 ?_
  exact w_X11_commonOf_j202 X x2 x3 x4 x6 x7 x8 x10 0 s0 σ KB KX0 Y (lv_sub hl [0, 1, 2, 3, 4, 5, 6, 7] rfl) h
def f_X11_commonOf_j165 (x2 : Int32) (x3 : Int32) (x4 : Int32) (x6 : Int32) (x7 : Int32) (x8 : Int32) (x10 : Int32) (x11 : Int32) (s0 : Int32) (s1 : Int32) (σ : St) : Option ((Int32 × Int32) ⊕ (Int32)) :=
  (f_X11_cells x2 σ).bind fun q15 => if q15 ≤ (x11 + x8) then f_X11_commonOf_j201 x2 x3 x4 x6 x7 x8 x10 (s1 + s0) σ else chk (inb (x11 + x8) 100) (if (σ 111 (x11 + x8).toNatClampNeg) = (-1) then f_X11_commonOf_j201 x2 x3 x4 x6 x7 x8 x10 (s1 + s0) σ else f_X11_commonOf_j202 x2 x3 x4 x6 x7 x8 x10 1 (s1 + s0) σ)
set_option maxHeartbeats 4000000 in
set_option maxRecDepth 100000 in
theorem w_X11_commonOf_j165 (X : Cx g RX11 cX11_commonOf 12 (some .int) p s m args meth c) (x2 : Int32) (x3 : Int32) (x4 : Int32) (x6 : Int32) (x7 : Int32) (x8 : Int32) (x10 : Int32) (x11 : Int32) (s0 : Int32) (s1 : Int32) (σ : St) {w : (Int32 × Int32) ⊕ (Int32)} (KB : ∀ (v0_ : Int32) (v1_ : Int32), w = .inl (v0_, v1_) → ∀ (H : Heap) (locs : List Loc) (ls : Array Slot), Wd g s σ H locs → lv_has ls 12 [(0, .ref (g.2.2 (101))), (2, .int (x2)), (3, .int (x3)), (4, .int (x4)), (6, .int (x6)), (7, .int (x7)), (8, .int (x8)), (9, .int (v0_)), (10, .int (v1_))] → W p l e (rmm 3 71) s m args below meth c H locs 0 0 Q (F0 m 34 ls [])) (KX0 : ∀ (v : Int32), w = .inr v → ∀ (H : Heap) (locs : List Loc) (ls : Array Slot), Wd g s σ H locs → lv_has ls 12 [(9, .int (v))] → W p l e (rmm 3 71) s m args below meth c H locs 0 0 Q (F0 m 211 ls [])) {H : Heap} {locs : List Loc} {ls : Array Slot} (Y : Wd g s σ H locs) (hl : lv_has ls 12 [(0, .ref (g.2.2 (101))), (2, .int (x2)), (3, .int (x3)), (4, .int (x4)), (6, .int (x6)), (7, .int (x7)), (8, .int (x8)), (10, .int (x10)), (11, .int (x11))]) (h : f_X11_commonOf_j165 x2 x3 x4 x6 x7 x8 x10 x11 s0 s1 σ = some w) : W p l e (rmm 3 71) s m args below meth c H locs 0 0 Q (F0 m 165 ls [.int (s0), .int (s1)]) := by
  unfold f_X11_commonOf_j165 at h
  refine lv_iadd X.1 X.2.1 (dk T_X11_commonOf 94 rfl) ?_
  refine lv_istore (lv' := [(9, .int (s1 + s0)), (0, .ref (g.2.2 (101))), (2, .int (x2)), (3, .int (x3)), (4, .int (x4)), (6, .int (x6)), (7, .int (x7)), (8, .int (x8)), (10, .int (x10)), (11, .int (x11))]) X.1 X.2.1 (dk T_X11_commonOf 95 rfl) hl (Nat.le_of_ble_eq_true rfl) rfl (fun ls hl => ?_)
  refine lv_iload X.1 X.2.1 (dk T_X11_commonOf 96 rfl) (lv_at hl 0 rfl) ?_
  refine lv_iload X.1 X.2.1 (dk T_X11_commonOf 97 rfl) (lv_at hl 9 rfl) ?_
  refine lv_iload X.1 X.2.1 (dk T_X11_commonOf 98 rfl) (lv_at hl 7 rfl) ?_
  refine lv_iadd X.1 X.2.1 (dk T_X11_commonOf 99 rfl) ?_
  refine lv_aload_n X.1 X.2.1 (dk T_X11_commonOf 100 rfl) rfl (lv_at hl 1 rfl) ?_
  refine lv_iload_n X.1 X.2.1 (dk T_X11_commonOf 101 rfl) rfl (lv_at hl 2 rfl) ?_
  obtain ⟨q15, hq15, h⟩ := bs h
  refine gvI (rest := [.int (x11 + x8), .int (s1 + s0)]) X Y (c_X11_cells x2 σ hq15) cb_X11_149 rfl hl.1 rfl rfl (Nat.le_of_ble_eq_true rfl) ⟨Nat.le_of_ble_eq_true rfl, Nat.le_of_ble_eq_true rfl⟩ (dk T_X11_commonOf 102 rfl) (fun H locs Y => ?_)
  refine lv_icmp_ge (tgt := 201) X.1 X.2.1 (dk T_X11_commonOf 103 rfl) rfl (fun c16 => ?_) (fun c16 => ?_)
  · replace h := ipos c16 h
    exact w_X11_commonOf_j201 X x2 x3 x4 x6 x7 x8 x10 (s1 + s0) σ KB KX0 Y (lv_sub hl [1, 2, 3, 4, 5, 6, 7, 8] rfl) h
  · replace h := ineg c16 h
    refine lv_aload_n X.1 X.2.1 (dk T_X11_commonOf 104 rfl) rfl (lv_at hl 1 rfl) ?_
    refine gg X Y fl_X11_37 rfl rfl (dk T_X11_commonOf 105 rfl) ?_
    refine lv_iload X.1 X.2.1 (dk T_X11_commonOf 106 rfl) (lv_at hl 9 rfl) ?_
    refine lv_iload X.1 X.2.1 (dk T_X11_commonOf 107 rfl) (lv_at hl 7 rfl) ?_
    refine lv_iadd X.1 X.2.1 (dk T_X11_commonOf 108 rfl) ?_
    obtain ⟨g17, h⟩ := gd h
    refine gil X Y rfl (inp g17) (dk T_X11_commonOf 109 rfl) ?_
    refine lv_iconst (v := (-1)) X.1 X.2.1 (dk T_X11_commonOf 110 rfl) ic_m1 ?_
    refine lv_icmp_eq (tgt := 201) X.1 X.2.1 (dk T_X11_commonOf 111 rfl) rfl (fun c18 => ?_) (fun c18 => ?_)
    · replace h := ipos c18 h
      exact w_X11_commonOf_j201 X x2 x3 x4 x6 x7 x8 x10 (s1 + s0) σ KB KX0 Y (lv_sub hl [1, 2, 3, 4, 5, 6, 7, 8] rfl) h
    · replace h := ineg c18 h
      refine lv_iconst (v := 1) X.1 X.2.1 (dk T_X11_commonOf 112 rfl) ic_1 ?_
      refine lv_goto (tgt := 202) X.1 X.2.1 (dk T_X11_commonOf 113 rfl) rfl ?_
      exact w_X11_commonOf_j202 X x2 x3 x4 x6 x7 x8 x10 1 (s1 + s0) σ KB KX0 Y (lv_sub hl [1, 2, 3, 4, 5, 6, 7, 8] rfl) h
def f_X11_commonOf_j164 (x2 : Int32) (x3 : Int32) (x4 : Int32) (x6 : Int32) (x7 : Int32) (x8 : Int32) (x10 : Int32) (x11 : Int32) (s0 : Int32) (σ : St) : Option ((Int32 × Int32) ⊕ (Int32)) :=
  f_X11_commonOf_j165 x2 x3 x4 x6 x7 x8 x10 x11 0 s0 σ
set_option maxHeartbeats 4000000 in
set_option maxRecDepth 100000 in
theorem w_X11_commonOf_j164 (X : Cx g RX11 cX11_commonOf 12 (some .int) p s m args meth c) (x2 : Int32) (x3 : Int32) (x4 : Int32) (x6 : Int32) (x7 : Int32) (x8 : Int32) (x10 : Int32) (x11 : Int32) (s0 : Int32) (σ : St) {w : (Int32 × Int32) ⊕ (Int32)} (KB : ∀ (v0_ : Int32) (v1_ : Int32), w = .inl (v0_, v1_) → ∀ (H : Heap) (locs : List Loc) (ls : Array Slot), Wd g s σ H locs → lv_has ls 12 [(0, .ref (g.2.2 (101))), (2, .int (x2)), (3, .int (x3)), (4, .int (x4)), (6, .int (x6)), (7, .int (x7)), (8, .int (x8)), (9, .int (v0_)), (10, .int (v1_))] → W p l e (rmm 3 71) s m args below meth c H locs 0 0 Q (F0 m 34 ls [])) (KX0 : ∀ (v : Int32), w = .inr v → ∀ (H : Heap) (locs : List Loc) (ls : Array Slot), Wd g s σ H locs → lv_has ls 12 [(9, .int (v))] → W p l e (rmm 3 71) s m args below meth c H locs 0 0 Q (F0 m 211 ls [])) {H : Heap} {locs : List Loc} {ls : Array Slot} (Y : Wd g s σ H locs) (hl : lv_has ls 12 [(0, .ref (g.2.2 (101))), (2, .int (x2)), (3, .int (x3)), (4, .int (x4)), (6, .int (x6)), (7, .int (x7)), (8, .int (x8)), (10, .int (x10)), (11, .int (x11))]) (h : f_X11_commonOf_j164 x2 x3 x4 x6 x7 x8 x10 x11 s0 σ = some w) : W p l e (rmm 3 71) s m args below meth c H locs 0 0 Q (F0 m 164 ls [.int (s0)]) := by
  unfold f_X11_commonOf_j164 at h
  refine lv_iconst (v := 0) X.1 X.2.1 (dk T_X11_commonOf 93 rfl) ic_0 ?_
  exact w_X11_commonOf_j165 X x2 x3 x4 x6 x7 x8 x10 x11 0 s0 σ KB KX0 Y (lv_sub hl [0, 1, 2, 3, 4, 5, 6, 7, 8] rfl) h
def f_X11_commonOf_j134 (x2 : Int32) (x3 : Int32) (x4 : Int32) (x6 : Int32) (x7 : Int32) (x8 : Int32) (x10 : Int32) (x11 : Int32) (s0 : Int32) (s1 : Int32) (σ : St) : Option ((Int32 × Int32) ⊕ (Int32)) :=
  if x11 < x8 then f_X11_commonOf_j164 x2 x3 x4 x6 x7 x8 x10 x11 (s1 + s0) σ else chk (inb (x11 - x8) 100) (if (σ 111 (x11 - x8).toNatClampNeg) = (-1) then f_X11_commonOf_j164 x2 x3 x4 x6 x7 x8 x10 x11 (s1 + s0) σ else f_X11_commonOf_j165 x2 x3 x4 x6 x7 x8 x10 x11 1 (s1 + s0) σ)
set_option maxHeartbeats 4000000 in
set_option maxRecDepth 100000 in
theorem w_X11_commonOf_j134 (X : Cx g RX11 cX11_commonOf 12 (some .int) p s m args meth c) (x2 : Int32) (x3 : Int32) (x4 : Int32) (x6 : Int32) (x7 : Int32) (x8 : Int32) (x10 : Int32) (x11 : Int32) (s0 : Int32) (s1 : Int32) (σ : St) {w : (Int32 × Int32) ⊕ (Int32)} (KB : ∀ (v0_ : Int32) (v1_ : Int32), w = .inl (v0_, v1_) → ∀ (H : Heap) (locs : List Loc) (ls : Array Slot), Wd g s σ H locs → lv_has ls 12 [(0, .ref (g.2.2 (101))), (2, .int (x2)), (3, .int (x3)), (4, .int (x4)), (6, .int (x6)), (7, .int (x7)), (8, .int (x8)), (9, .int (v0_)), (10, .int (v1_))] → W p l e (rmm 3 71) s m args below meth c H locs 0 0 Q (F0 m 34 ls [])) (KX0 : ∀ (v : Int32), w = .inr v → ∀ (H : Heap) (locs : List Loc) (ls : Array Slot), Wd g s σ H locs → lv_has ls 12 [(9, .int (v))] → W p l e (rmm 3 71) s m args below meth c H locs 0 0 Q (F0 m 211 ls [])) {H : Heap} {locs : List Loc} {ls : Array Slot} (Y : Wd g s σ H locs) (hl : lv_has ls 12 [(0, .ref (g.2.2 (101))), (2, .int (x2)), (3, .int (x3)), (4, .int (x4)), (6, .int (x6)), (7, .int (x7)), (8, .int (x8)), (10, .int (x10)), (11, .int (x11))]) (h : f_X11_commonOf_j134 x2 x3 x4 x6 x7 x8 x10 x11 s0 s1 σ = some w) : W p l e (rmm 3 71) s m args below meth c H locs 0 0 Q (F0 m 134 ls [.int (s0), .int (s1)]) := by
  unfold f_X11_commonOf_j134 at h
  refine lv_iadd X.1 X.2.1 (dk T_X11_commonOf 77 rfl) ?_
  refine lv_istore (lv' := [(9, .int (s1 + s0)), (0, .ref (g.2.2 (101))), (2, .int (x2)), (3, .int (x3)), (4, .int (x4)), (6, .int (x6)), (7, .int (x7)), (8, .int (x8)), (10, .int (x10)), (11, .int (x11))]) X.1 X.2.1 (dk T_X11_commonOf 78 rfl) hl (Nat.le_of_ble_eq_true rfl) rfl (fun ls hl => ?_)
  refine lv_iload X.1 X.2.1 (dk T_X11_commonOf 79 rfl) (lv_at hl 0 rfl) ?_
  refine lv_iload X.1 X.2.1 (dk T_X11_commonOf 80 rfl) (lv_at hl 9 rfl) ?_
  refine lv_iload X.1 X.2.1 (dk T_X11_commonOf 81 rfl) (lv_at hl 7 rfl) ?_
  refine lv_icmp_lt (tgt := 164) X.1 X.2.1 (dk T_X11_commonOf 82 rfl) rfl (fun c14 => ?_) (fun c14 => ?_)
  · replace h := ipos c14 h
    exact w_X11_commonOf_j164 X x2 x3 x4 x6 x7 x8 x10 x11 (s1 + s0) σ KB KX0 Y (lv_sub hl [1, 2, 3, 4, 5, 6, 7, 8, 9] rfl) h
  · replace h := ineg c14 h
    refine lv_aload_n X.1 X.2.1 (dk T_X11_commonOf 83 rfl) rfl (lv_at hl 1 rfl) ?_
    refine gg X Y fl_X11_37 rfl rfl (dk T_X11_commonOf 84 rfl) ?_
    refine lv_iload X.1 X.2.1 (dk T_X11_commonOf 85 rfl) (lv_at hl 9 rfl) ?_
    refine lv_iload X.1 X.2.1 (dk T_X11_commonOf 86 rfl) (lv_at hl 7 rfl) ?_
    refine lv_isub X.1 X.2.1 (dk T_X11_commonOf 87 rfl) ?_
    obtain ⟨g19, h⟩ := gd h
    refine gil X Y rfl (inp g19) (dk T_X11_commonOf 88 rfl) ?_
    refine lv_iconst (v := (-1)) X.1 X.2.1 (dk T_X11_commonOf 89 rfl) ic_m1 ?_
    refine lv_icmp_eq (tgt := 164) X.1 X.2.1 (dk T_X11_commonOf 90 rfl) rfl (fun c20 => ?_) (fun c20 => ?_)
    · replace h := ipos c20 h
      exact w_X11_commonOf_j164 X x2 x3 x4 x6 x7 x8 x10 x11 (s1 + s0) σ KB KX0 Y (lv_sub hl [1, 2, 3, 4, 5, 6, 7, 8, 9] rfl) h
    · replace h := ineg c20 h
      refine lv_iconst (v := 1) X.1 X.2.1 (dk T_X11_commonOf 91 rfl) ic_1 ?_
      refine lv_goto (tgt := 165) X.1 X.2.1 (dk T_X11_commonOf 92 rfl) rfl ?_
      exact w_X11_commonOf_j165 X x2 x3 x4 x6 x7 x8 x10 x11 1 (s1 + s0) σ KB KX0 Y (lv_sub hl [1, 2, 3, 4, 5, 6, 7, 8, 9] rfl) h
def f_X11_commonOf_j133 (x2 : Int32) (x3 : Int32) (x4 : Int32) (x6 : Int32) (x7 : Int32) (x8 : Int32) (x10 : Int32) (x11 : Int32) (s0 : Int32) (σ : St) : Option ((Int32 × Int32) ⊕ (Int32)) :=
  f_X11_commonOf_j134 x2 x3 x4 x6 x7 x8 x10 x11 0 s0 σ
set_option maxHeartbeats 4000000 in
set_option maxRecDepth 100000 in
theorem w_X11_commonOf_j133 (X : Cx g RX11 cX11_commonOf 12 (some .int) p s m args meth c) (x2 : Int32) (x3 : Int32) (x4 : Int32) (x6 : Int32) (x7 : Int32) (x8 : Int32) (x10 : Int32) (x11 : Int32) (s0 : Int32) (σ : St) {w : (Int32 × Int32) ⊕ (Int32)} (KB : ∀ (v0_ : Int32) (v1_ : Int32), w = .inl (v0_, v1_) → ∀ (H : Heap) (locs : List Loc) (ls : Array Slot), Wd g s σ H locs → lv_has ls 12 [(0, .ref (g.2.2 (101))), (2, .int (x2)), (3, .int (x3)), (4, .int (x4)), (6, .int (x6)), (7, .int (x7)), (8, .int (x8)), (9, .int (v0_)), (10, .int (v1_))] → W p l e (rmm 3 71) s m args below meth c H locs 0 0 Q (F0 m 34 ls [])) (KX0 : ∀ (v : Int32), w = .inr v → ∀ (H : Heap) (locs : List Loc) (ls : Array Slot), Wd g s σ H locs → lv_has ls 12 [(9, .int (v))] → W p l e (rmm 3 71) s m args below meth c H locs 0 0 Q (F0 m 211 ls [])) {H : Heap} {locs : List Loc} {ls : Array Slot} (Y : Wd g s σ H locs) (hl : lv_has ls 12 [(0, .ref (g.2.2 (101))), (2, .int (x2)), (3, .int (x3)), (4, .int (x4)), (6, .int (x6)), (7, .int (x7)), (8, .int (x8)), (10, .int (x10)), (11, .int (x11))]) (h : f_X11_commonOf_j133 x2 x3 x4 x6 x7 x8 x10 x11 s0 σ = some w) : W p l e (rmm 3 71) s m args below meth c H locs 0 0 Q (F0 m 133 ls [.int (s0)]) := by
  unfold f_X11_commonOf_j133 at h
  refine lv_iconst (v := 0) X.1 X.2.1 (dk T_X11_commonOf 76 rfl) ic_0 ?_
  exact w_X11_commonOf_j134 X x2 x3 x4 x6 x7 x8 x10 x11 0 s0 σ KB KX0 Y (lv_sub hl [0, 1, 2, 3, 4, 5, 6, 7, 8] rfl) h
def f_X11_commonOf_j101 (x2 : Int32) (x3 : Int32) (x4 : Int32) (x6 : Int32) (x7 : Int32) (x8 : Int32) (x10 : Int32) (x11 : Int32) (s0 : Int32) (s1 : Int32) (σ : St) : Option ((Int32 × Int32) ⊕ (Int32)) :=
  chk (nz x8) (if ((x11 + 1) - (x11 + 1) / x8 * x8) ≤ 0 then f_X11_commonOf_j133 x2 x3 x4 x6 x7 x8 x10 x11 (s1 + s0) σ else chk (inb (x11 + 1) 100) (if (σ 111 (x11 + 1).toNatClampNeg) = (-1) then f_X11_commonOf_j133 x2 x3 x4 x6 x7 x8 x10 x11 (s1 + s0) σ else f_X11_commonOf_j134 x2 x3 x4 x6 x7 x8 x10 x11 1 (s1 + s0) σ))
set_option maxHeartbeats 4000000 in
set_option maxRecDepth 100000 in
theorem w_X11_commonOf_j101 (X : Cx g RX11 cX11_commonOf 12 (some .int) p s m args meth c) (x2 : Int32) (x3 : Int32) (x4 : Int32) (x6 : Int32) (x7 : Int32) (x8 : Int32) (x10 : Int32) (x11 : Int32) (s0 : Int32) (s1 : Int32) (σ : St) {w : (Int32 × Int32) ⊕ (Int32)} (KB : ∀ (v0_ : Int32) (v1_ : Int32), w = .inl (v0_, v1_) → ∀ (H : Heap) (locs : List Loc) (ls : Array Slot), Wd g s σ H locs → lv_has ls 12 [(0, .ref (g.2.2 (101))), (2, .int (x2)), (3, .int (x3)), (4, .int (x4)), (6, .int (x6)), (7, .int (x7)), (8, .int (x8)), (9, .int (v0_)), (10, .int (v1_))] → W p l e (rmm 3 71) s m args below meth c H locs 0 0 Q (F0 m 34 ls [])) (KX0 : ∀ (v : Int32), w = .inr v → ∀ (H : Heap) (locs : List Loc) (ls : Array Slot), Wd g s σ H locs → lv_has ls 12 [(9, .int (v))] → W p l e (rmm 3 71) s m args below meth c H locs 0 0 Q (F0 m 211 ls [])) {H : Heap} {locs : List Loc} {ls : Array Slot} (Y : Wd g s σ H locs) (hl : lv_has ls 12 [(0, .ref (g.2.2 (101))), (2, .int (x2)), (3, .int (x3)), (4, .int (x4)), (6, .int (x6)), (7, .int (x7)), (8, .int (x8)), (10, .int (x10)), (11, .int (x11))]) (h : f_X11_commonOf_j101 x2 x3 x4 x6 x7 x8 x10 x11 s0 s1 σ = some w) : W p l e (rmm 3 71) s m args below meth c H locs 0 0 Q (F0 m 101 ls [.int (s0), .int (s1)]) := by
  unfold f_X11_commonOf_j101 at h
  refine lv_iadd X.1 X.2.1 (dk T_X11_commonOf 57 rfl) ?_
  refine lv_istore (lv' := [(9, .int (s1 + s0)), (0, .ref (g.2.2 (101))), (2, .int (x2)), (3, .int (x3)), (4, .int (x4)), (6, .int (x6)), (7, .int (x7)), (8, .int (x8)), (10, .int (x10)), (11, .int (x11))]) X.1 X.2.1 (dk T_X11_commonOf 58 rfl) hl (Nat.le_of_ble_eq_true rfl) rfl (fun ls hl => ?_)
  refine lv_iload X.1 X.2.1 (dk T_X11_commonOf 59 rfl) (lv_at hl 0 rfl) ?_
  refine lv_iload X.1 X.2.1 (dk T_X11_commonOf 60 rfl) (lv_at hl 9 rfl) ?_
  refine lv_iconst (v := 1) X.1 X.2.1 (dk T_X11_commonOf 61 rfl) ic_1 ?_
  refine lv_iadd X.1 X.2.1 (dk T_X11_commonOf 62 rfl) ?_
  refine lv_iload X.1 X.2.1 (dk T_X11_commonOf 63 rfl) (lv_at hl 7 rfl) ?_
  obtain ⟨g12, h⟩ := gd h
  refine lv_irem X.1 X.2.1 (dk T_X11_commonOf 64 rfl) (nzp g12) ?_
  refine lv_if_le (tgt := 133) X.1 X.2.1 (dk T_X11_commonOf 65 rfl) rfl (fun c13 => ?_) (fun c13 => ?_)
  · replace h := ipos c13 h
    exact w_X11_commonOf_j133 X x2 x3 x4 x6 x7 x8 x10 x11 (s1 + s0) σ KB KX0 Y (lv_sub hl [1, 2, 3, 4, 5, 6, 7, 8, 9] rfl) h
  · replace h := ineg c13 h
    refine lv_aload_n X.1 X.2.1 (dk T_X11_commonOf 66 rfl) rfl (lv_at hl 1 rfl) ?_
    refine gg X Y fl_X11_37 rfl rfl (dk T_X11_commonOf 67 rfl) ?_
    refine lv_iload X.1 X.2.1 (dk T_X11_commonOf 68 rfl) (lv_at hl 9 rfl) ?_
    refine lv_iconst (v := 1) X.1 X.2.1 (dk T_X11_commonOf 69 rfl) ic_1 ?_
    refine lv_iadd X.1 X.2.1 (dk T_X11_commonOf 70 rfl) ?_
    obtain ⟨g21, h⟩ := gd h
    refine gil X Y rfl (inp g21) (dk T_X11_commonOf 71 rfl) ?_
    refine lv_iconst (v := (-1)) X.1 X.2.1 (dk T_X11_commonOf 72 rfl) ic_m1 ?_
    refine lv_icmp_eq (tgt := 133) X.1 X.2.1 (dk T_X11_commonOf 73 rfl) rfl (fun c22 => ?_) (fun c22 => ?_)
    · replace h := ipos c22 h
      exact w_X11_commonOf_j133 X x2 x3 x4 x6 x7 x8 x10 x11 (s1 + s0) σ KB KX0 Y (lv_sub hl [1, 2, 3, 4, 5, 6, 7, 8, 9] rfl) h
    · replace h := ineg c22 h
      refine lv_iconst (v := 1) X.1 X.2.1 (dk T_X11_commonOf 74 rfl) ic_1 ?_
      refine lv_goto (tgt := 134) X.1 X.2.1 (dk T_X11_commonOf 75 rfl) rfl ?_
      exact w_X11_commonOf_j134 X x2 x3 x4 x6 x7 x8 x10 x11 1 (s1 + s0) σ KB KX0 Y (lv_sub hl [1, 2, 3, 4, 5, 6, 7, 8, 9] rfl) h
def f_X11_commonOf_j100 (x2 : Int32) (x3 : Int32) (x4 : Int32) (x6 : Int32) (x7 : Int32) (x8 : Int32) (x10 : Int32) (x11 : Int32) (s0 : Int32) (σ : St) : Option ((Int32 × Int32) ⊕ (Int32)) :=
  f_X11_commonOf_j101 x2 x3 x4 x6 x7 x8 x10 x11 0 s0 σ
set_option maxHeartbeats 4000000 in
set_option maxRecDepth 100000 in
theorem w_X11_commonOf_j100 (X : Cx g RX11 cX11_commonOf 12 (some .int) p s m args meth c) (x2 : Int32) (x3 : Int32) (x4 : Int32) (x6 : Int32) (x7 : Int32) (x8 : Int32) (x10 : Int32) (x11 : Int32) (s0 : Int32) (σ : St) {w : (Int32 × Int32) ⊕ (Int32)} (KB : ∀ (v0_ : Int32) (v1_ : Int32), w = .inl (v0_, v1_) → ∀ (H : Heap) (locs : List Loc) (ls : Array Slot), Wd g s σ H locs → lv_has ls 12 [(0, .ref (g.2.2 (101))), (2, .int (x2)), (3, .int (x3)), (4, .int (x4)), (6, .int (x6)), (7, .int (x7)), (8, .int (x8)), (9, .int (v0_)), (10, .int (v1_))] → W p l e (rmm 3 71) s m args below meth c H locs 0 0 Q (F0 m 34 ls [])) (KX0 : ∀ (v : Int32), w = .inr v → ∀ (H : Heap) (locs : List Loc) (ls : Array Slot), Wd g s σ H locs → lv_has ls 12 [(9, .int (v))] → W p l e (rmm 3 71) s m args below meth c H locs 0 0 Q (F0 m 211 ls [])) {H : Heap} {locs : List Loc} {ls : Array Slot} (Y : Wd g s σ H locs) (hl : lv_has ls 12 [(0, .ref (g.2.2 (101))), (2, .int (x2)), (3, .int (x3)), (4, .int (x4)), (6, .int (x6)), (7, .int (x7)), (8, .int (x8)), (10, .int (x10)), (11, .int (x11))]) (h : f_X11_commonOf_j100 x2 x3 x4 x6 x7 x8 x10 x11 s0 σ = some w) : W p l e (rmm 3 71) s m args below meth c H locs 0 0 Q (F0 m 100 ls [.int (s0)]) := by
  unfold f_X11_commonOf_j100 at h
  refine lv_iconst (v := 0) X.1 X.2.1 (dk T_X11_commonOf 56 rfl) ic_0 ?_
  exact w_X11_commonOf_j101 X x2 x3 x4 x6 x7 x8 x10 x11 0 s0 σ KB KX0 Y (lv_sub hl [0, 1, 2, 3, 4, 5, 6, 7, 8] rfl) h
def f_X11_commonOf_l34 (x2 : Int32) (x3 : Int32) (x4 : Int32) (x6 : Int32) (x7 : Int32) (x8 : Int32) (σ : St) (z : Int32 × Int32) : Option ((Int32 × Int32) ⊕ (Int32)) :=
  if 16 ≤ z.2 then some (.inr z.1) else (f_X11_has x6 z.2).bind fun q5 => if q5 = 0 then f_X11_commonOf_j205 x2 x3 x4 x6 x7 x8 z.1 z.2 σ else chk (nz x7) (chk (nz x7) ((f_X11_at x8 (x3 + (z.2 - z.2 / x7 * x7)) (x4 + (z.2 / x7))).bind fun q9 => chk (nz x8) (if (q9 - q9 / x8 * x8) ≤ 0 then f_X11_commonOf_j100 x2 x3 x4 x6 x7 x8 z.2 q9 z.1 σ else chk (inb (q9 - 1) 100) (if (σ 111 (q9 - 1).toNatClampNeg) = (-1) then f_X11_commonOf_j100 x2 x3 x4 x6 x7 x8 z.2 q9 z.1 σ else f_X11_commonOf_j101 x2 x3 x4 x6 x7 x8 z.2 q9 1 z.1 σ))))
set_option maxHeartbeats 4000000 in
set_option maxRecDepth 100000 in
theorem w_X11_commonOf_l34 (X : Cx g RX11 cX11_commonOf 12 (some .int) p s m args meth c) (x2 : Int32) (x3 : Int32) (x4 : Int32) (x6 : Int32) (x7 : Int32) (x8 : Int32) (σ : St) {r : Int32} (KX0 : ∀ (v : Int32), r = v → ∀ (H : Heap) (locs : List Loc) (ls : Array Slot), Wd g s σ H locs → lv_has ls 12 [(9, .int (v))] → W p l e (rmm 3 71) s m args below meth c H locs 0 0 Q (F0 m 211 ls [])) : ∀ (n : Nat) (z : Int32 × Int32) {H : Heap} {locs : List Loc} {ls : Array Slot}, Wd g s σ H locs → lv_has ls 12 [(0, .ref (g.2.2 (101))), (2, .int (x2)), (3, .int (x3)), (4, .int (x4)), (6, .int (x6)), (7, .int (x7)), (8, .int (x8)), (9, .int (z.1)), (10, .int (z.2))] → lp (f_X11_commonOf_l34 x2 x3 x4 x6 x7 x8 σ) n z = some r → W p l e (rmm 3 71) s m args below meth c H locs 0 0 Q (F0 m 34 ls []) := by
  intro n
  induction n with
  | zero => intro z H locs ls Y hl h; cases h
  | succ n ih =>
    intro z H locs ls Y hl h
    obtain ⟨w, h, hw⟩ := lps h
    have KB : ∀ (v0_ : Int32) (v1_ : Int32), w = .inl (v0_, v1_) → ∀ (H : Heap) (locs : List Loc) (ls : Array Slot), Wd g s σ H locs → lv_has ls 12 [(0, .ref (g.2.2 (101))), (2, .int (x2)), (3, .int (x3)), (4, .int (x4)), (6, .int (x6)), (7, .int (x7)), (8, .int (x8)), (9, .int (v0_)), (10, .int (v1_))] → W p l e (rmm 3 71) s m args below meth c H locs 0 0 Q (F0 m 34 ls []) := fun v0_ v1_ e H locs ls Y hl => ih (v0_, v1_) Y hl (lpl hw e)
    have KX0 := fun (v : Int32) (e : w = .inr v) => KX0 v (lpr hw e)
    unfold f_X11_commonOf_l34 at h
    refine lv_iload X.1 X.2.1 (dk T_X11_commonOf 21 rfl) (lv_at hl 8 rfl) ?_
    refine lv_bipush (v := 16) X.1 X.2.1 (dk T_X11_commonOf 22 rfl) bp_16 ?_
    refine lv_icmp_ge (tgt := 211) X.1 X.2.1 (dk T_X11_commonOf 23 rfl) rfl (fun c4 => ?_) (fun c4 => ?_)
    · replace h := ipos c4 h
      exact KX0 z.1 (Option.some.inj h).symm _ _ _ Y (lv_sub hl [7] rfl)
    · replace h := ineg c4 h
      refine lv_iload X.1 X.2.1 (dk T_X11_commonOf 24 rfl) (lv_at hl 4 rfl) ?_
      refine lv_iload X.1 X.2.1 (dk T_X11_commonOf 25 rfl) (lv_at hl 8 rfl) ?_
      obtain ⟨q5, hq5, h⟩ := bs h
      refine gsI (rest := []) X Y (c_X11_has x6 z.2 σ hq5) cb_X11_105 hl.1 rfl rfl (Nat.le_of_ble_eq_true rfl) ⟨Nat.le_of_ble_eq_true rfl, Nat.le_of_ble_eq_true rfl⟩ (dk T_X11_commonOf 26 rfl) (fun H locs Y => ?_)
      refine lv_if_eq (tgt := 205) X.1 X.2.1 (dk T_X11_commonOf 27 rfl) rfl (fun c6 => ?_) (fun c6 => ?_)
      · replace h := ipos c6 h
        exact w_X11_commonOf_j205 X x2 x3 x4 x6 x7 x8 z.1 z.2 σ KB KX0 Y (lv_sub hl [0, 1, 2, 3, 4, 5, 6, 7, 8] rfl) h
      · replace h := ineg c6 h
        refine lv_iload X.1 X.2.1 (dk T_X11_commonOf 28 rfl) (lv_at hl 6 rfl) ?_
        refine lv_iload_n X.1 X.2.1 (dk T_X11_commonOf 29 rfl) rfl (lv_at hl 2 rfl) ?_
        refine lv_iload X.1 X.2.1 (dk T_X11_commonOf 30 rfl) (lv_at hl 8 rfl) ?_
        refine lv_iload X.1 X.2.1 (dk T_X11_commonOf 31 rfl) (lv_at hl 5 rfl) ?_
        obtain ⟨g7, h⟩ := gd h
        refine lv_irem X.1 X.2.1 (dk T_X11_commonOf 32 rfl) (nzp g7) ?_
        refine lv_iadd X.1 X.2.1 (dk T_X11_commonOf 33 rfl) ?_
        refine lv_iload X.1 X.2.1 (dk T_X11_commonOf 34 rfl) (lv_at hl 3 rfl) ?_
        refine lv_iload X.1 X.2.1 (dk T_X11_commonOf 35 rfl) (lv_at hl 8 rfl) ?_
        refine lv_iload X.1 X.2.1 (dk T_X11_commonOf 36 rfl) (lv_at hl 5 rfl) ?_
        obtain ⟨g8, h⟩ := gd h
        refine lv_idiv X.1 X.2.1 (dk T_X11_commonOf 37 rfl) (nzp g8) ?_
        refine lv_iadd X.1 X.2.1 (dk T_X11_commonOf 38 rfl) ?_
        obtain ⟨q9, hq9, h⟩ := bs h
        refine gsI (rest := []) X Y (c_X11_at x8 (x3 + (z.2 - z.2 / x7 * x7)) (x4 + (z.2 / x7)) σ hq9) cb_X11_102 hl.1 rfl rfl (Nat.le_of_ble_eq_true rfl) ⟨Nat.le_of_ble_eq_true rfl, Nat.le_of_ble_eq_true rfl⟩ (dk T_X11_commonOf 39 rfl) (fun H locs Y => ?_)
        refine lv_istore (lv' := [(11, .int (q9)), (0, .ref (g.2.2 (101))), (2, .int (x2)), (3, .int (x3)), (4, .int (x4)), (6, .int (x6)), (7, .int (x7)), (8, .int (x8)), (9, .int (z.1)), (10, .int (z.2))]) X.1 X.2.1 (dk T_X11_commonOf 40 rfl) hl (Nat.le_of_ble_eq_true rfl) rfl (fun ls hl => ?_)
        refine lv_iload X.1 X.2.1 (dk T_X11_commonOf 41 rfl) (lv_at hl 8 rfl) ?_
        refine lv_iload X.1 X.2.1 (dk T_X11_commonOf 42 rfl) (lv_at hl 0 rfl) ?_
        refine lv_iload X.1 X.2.1 (dk T_X11_commonOf 43 rfl) (lv_at hl 7 rfl) ?_
        obtain ⟨g10, h⟩ := gd h
        refine lv_irem X.1 X.2.1 (dk T_X11_commonOf 44 rfl) (nzp g10) ?_
        refine lv_if_le (tgt := 100) X.1 X.2.1 (dk T_X11_commonOf 45 rfl) rfl (fun c11 => ?_) (fun c11 => ?_)
        · replace h := ipos c11 h
          exact w_X11_commonOf_j100 X x2 x3 x4 x6 x7 x8 z.2 q9 z.1 σ KB KX0 Y (lv_sub hl [1, 2, 3, 4, 5, 6, 7, 9, 0] rfl) h
        · replace h := ineg c11 h
          refine lv_aload_n X.1 X.2.1 (dk T_X11_commonOf 46 rfl) rfl (lv_at hl 1 rfl) ?_
          refine gg X Y fl_X11_37 rfl rfl (dk T_X11_commonOf 47 rfl) ?_
          refine lv_iload X.1 X.2.1 (dk T_X11_commonOf 48 rfl) (lv_at hl 0 rfl) ?_
          refine lv_iconst (v := 1) X.1 X.2.1 (dk T_X11_commonOf 49 rfl) ic_1 ?_
          refine lv_isub X.1 X.2.1 (dk T_X11_commonOf 50 rfl) ?_
          obtain ⟨g23, h⟩ := gd h
          refine gil X Y rfl (inp g23) (dk T_X11_commonOf 51 rfl) ?_
          refine lv_iconst (v := (-1)) X.1 X.2.1 (dk T_X11_commonOf 52 rfl) ic_m1 ?_
          refine lv_icmp_eq (tgt := 100) X.1 X.2.1 (dk T_X11_commonOf 53 rfl) rfl (fun c24 => ?_) (fun c24 => ?_)
          · replace h := ipos c24 h
            exact w_X11_commonOf_j100 X x2 x3 x4 x6 x7 x8 z.2 q9 z.1 σ KB KX0 Y (lv_sub hl [1, 2, 3, 4, 5, 6, 7, 9, 0] rfl) h
          · replace h := ineg c24 h
            refine lv_iconst (v := 1) X.1 X.2.1 (dk T_X11_commonOf 54 rfl) ic_1 ?_
            refine lv_goto (tgt := 101) X.1 X.2.1 (dk T_X11_commonOf 55 rfl) rfl ?_
            exact w_X11_commonOf_j101 X x2 x3 x4 x6 x7 x8 z.2 q9 1 z.1 σ KB KX0 Y (lv_sub hl [1, 2, 3, 4, 5, 6, 7, 9, 0] rfl) h
def f_X11_commonOf_0 (x1 : Int32) (x2 : Int32) (x3 : Int32) (x4 : Int32) (x5 : Int32) (σ : St) : Option (Int32) :=
  (f_X11_turnedSet x1 x5 σ).bind fun q1 => (f_X11_turnedColumns x1 x5 σ).bind fun q2 => chk (inb (3 + x2) 761) ((lp (f_X11_commonOf_l34 x2 x3 x4 q1 q2 (σ 102 (3 + x2).toNatClampNeg) σ) FU (0, 0)).bind fun q25 => some q25)
set_option maxHeartbeats 4000000 in
set_option maxRecDepth 100000 in
theorem w_X11_commonOf_0 (X : Cx g RX11 cX11_commonOf 12 (some .int) p s m args meth c) (x1 : Int32) (x2 : Int32) (x3 : Int32) (x4 : Int32) (x5 : Int32) (σ : St) {w : Int32} (KR : ∀ (H : Heap) (locs : List Loc) (ls : Array Slot) (pc : Nat), Wd g s σ H locs → decode cX11_commonOf pc = .ok (.ireturn, 1) → W p l e (rmm 3 71) s m args below meth c H locs 0 0 Q (F0 m pc ls [.int (w)])) {H : Heap} {locs : List Loc} {ls : Array Slot} (Y : Wd g s σ H locs) (hl : lv_has ls 12 [(0, .ref (g.2.2 (101))), (1, .int (x1)), (2, .int (x2)), (3, .int (x3)), (4, .int (x4)), (5, .int (x5))]) (h : f_X11_commonOf_0 x1 x2 x3 x4 x5 σ = some w) : W p l e (rmm 3 71) s m args below meth c H locs 0 0 Q (F0 m 0 ls []) := by
  unfold f_X11_commonOf_0 at h
  refine lv_aload_n X.1 X.2.1 (dk T_X11_commonOf 0 rfl) rfl (lv_at hl 0 rfl) ?_
  refine lv_iload_n X.1 X.2.1 (dk T_X11_commonOf 1 rfl) rfl (lv_at hl 1 rfl) ?_
  refine lv_iload X.1 X.2.1 (dk T_X11_commonOf 2 rfl) (lv_at hl 5 rfl) ?_
  obtain ⟨q1, hq1, h⟩ := bs h
  refine gvI (rest := []) X Y (c_X11_turnedSet x1 x5 σ hq1) cb_X11_136 rfl hl.1 rfl rfl (Nat.le_of_ble_eq_true rfl) ⟨Nat.le_of_ble_eq_true rfl, Nat.le_of_ble_eq_true rfl⟩ (dk T_X11_commonOf 3 rfl) (fun H locs Y => ?_)
  refine lv_istore (lv' := [(6, .int (q1)), (0, .ref (g.2.2 (101))), (1, .int (x1)), (2, .int (x2)), (3, .int (x3)), (4, .int (x4)), (5, .int (x5))]) X.1 X.2.1 (dk T_X11_commonOf 4 rfl) hl (Nat.le_of_ble_eq_true rfl) rfl (fun ls hl => ?_)
  refine lv_aload_n X.1 X.2.1 (dk T_X11_commonOf 5 rfl) rfl (lv_at hl 1 rfl) ?_
  refine lv_iload_n X.1 X.2.1 (dk T_X11_commonOf 6 rfl) rfl (lv_at hl 2 rfl) ?_
  refine lv_iload X.1 X.2.1 (dk T_X11_commonOf 7 rfl) (lv_at hl 6 rfl) ?_
  obtain ⟨q2, hq2, h⟩ := bs h
  refine gvI (rest := []) X Y (c_X11_turnedColumns x1 x5 σ hq2) cb_X11_126 rfl hl.1 rfl rfl (Nat.le_of_ble_eq_true rfl) ⟨Nat.le_of_ble_eq_true rfl, Nat.le_of_ble_eq_true rfl⟩ (dk T_X11_commonOf 8 rfl) (fun H locs Y => ?_)
  refine lv_istore (lv' := [(7, .int (q2)), (6, .int (q1)), (0, .ref (g.2.2 (101))), (1, .int (x1)), (2, .int (x2)), (3, .int (x3)), (4, .int (x4)), (5, .int (x5))]) X.1 X.2.1 (dk T_X11_commonOf 9 rfl) hl (Nat.le_of_ble_eq_true rfl) rfl (fun ls hl => ?_)
  refine lv_aload_n X.1 X.2.1 (dk T_X11_commonOf 10 rfl) rfl (lv_at hl 2 rfl) ?_
  refine gg X Y fl_X11_7 rfl rfl (dk T_X11_commonOf 11 rfl) ?_
  refine lv_iconst (v := 3) X.1 X.2.1 (dk T_X11_commonOf 12 rfl) ic_3 ?_
  refine lv_iload_n X.1 X.2.1 (dk T_X11_commonOf 13 rfl) rfl (lv_at hl 4 rfl) ?_
  refine lv_iadd X.1 X.2.1 (dk T_X11_commonOf 14 rfl) ?_
  obtain ⟨g3, h⟩ := gd h
  refine gil X Y rfl (inp g3) (dk T_X11_commonOf 15 rfl) ?_
  refine lv_istore (lv' := [(8, .int (σ 102 (3 + x2).toNatClampNeg)), (7, .int (q2)), (6, .int (q1)), (0, .ref (g.2.2 (101))), (1, .int (x1)), (2, .int (x2)), (3, .int (x3)), (4, .int (x4)), (5, .int (x5))]) X.1 X.2.1 (dk T_X11_commonOf 16 rfl) hl (Nat.le_of_ble_eq_true rfl) rfl (fun ls hl => ?_)
  refine lv_iconst (v := 0) X.1 X.2.1 (dk T_X11_commonOf 17 rfl) ic_0 ?_
  refine lv_istore (lv' := [(9, .int (0)), (8, .int (σ 102 (3 + x2).toNatClampNeg)), (7, .int (q2)), (6, .int (q1)), (0, .ref (g.2.2 (101))), (1, .int (x1)), (2, .int (x2)), (3, .int (x3)), (4, .int (x4)), (5, .int (x5))]) X.1 X.2.1 (dk T_X11_commonOf 18 rfl) hl (Nat.le_of_ble_eq_true rfl) rfl (fun ls hl => ?_)
  refine lv_iconst (v := 0) X.1 X.2.1 (dk T_X11_commonOf 19 rfl) ic_0 ?_
  refine lv_istore (lv' := [(10, .int (0)), (9, .int (0)), (8, .int (σ 102 (3 + x2).toNatClampNeg)), (7, .int (q2)), (6, .int (q1)), (0, .ref (g.2.2 (101))), (1, .int (x1)), (2, .int (x2)), (3, .int (x3)), (4, .int (x4)), (5, .int (x5))]) X.1 X.2.1 (dk T_X11_commonOf 20 rfl) hl (Nat.le_of_ble_eq_true rfl) rfl (fun ls hl => ?_)
  obtain ⟨q25, hq25, h⟩ := bs h
  refine w_X11_commonOf_l34 X x2 x3 x4 q1 q2 (σ 102 (3 + x2).toNatClampNeg) σ (fun v e H locs ls Y hl => ?_) FU (0, 0) Y (lv_sub hl [5, 7, 8, 9, 4, 3, 2, 1, 0] rfl) hq25
  · obtain rfl := e
    refine lv_iload X.1 X.2.1 (dk T_X11_commonOf 119 rfl) (lv_at hl 0 rfl) ?_
    obtain rfl := Option.some.inj h
    exact KR _ _ _ _ Y (dk T_X11_commonOf 120 rfl)
def f_X11_commonOf (x1 : Int32) (x2 : Int32) (x3 : Int32) (x4 : Int32) (x5 : Int32) (σ : St) : Option (Int32) := f_X11_commonOf_0 x1 x2 x3 x4 x5 σ
set_option maxHeartbeats 4000000 in
set_option maxRecDepth 100000 in
theorem c_X11_commonOf {l : Launch} {g : Geo} (x1 : Int32) (x2 : Int32) (x3 : Int32) (x4 : Int32) (x5 : Int32) (σ : St) {w : Int32} (h : f_X11_commonOf x1 x2 x3 x4 x5 σ = some w) : CtI l yX11_commonOf cX11_commonOf 12 (some .int) (rmm 3 71) g [.ref (g.2.2 (101)), .int (x1), .int (x2), .int (x3), .int (x4), .int (x5)] σ w σ := enI .int (by decide) rfl rfl (Nat.le_of_ble_eq_true rfl) (fun p e s m args below meth c Q X Y ls hl KR => w_X11_commonOf_0 X x1 x2 x3 x4 x5 σ KR Y hl h)
def I_X11_finds : List (Nat × Instr × Nat) := [(0, .iconst 0, 1), (1, .istore_n 2, 1), (2, .iload_n 2, 1), (3, .aload_n 0, 1), (4, .getfield 7, 3), (7, .iconst 0, 1), (8, .iaload, 1), (9, .if_icmp .ge 152, 3), (12, .aload_n 0, 1), (13, .iload_n 2, 1), (14, .invokevirtual 145, 3), (17, .iconst (-1), 1), (18, .istore_n 3, 1), (19, .iconst 0, 1), (20, .istore 4, 2), (22, .iload 4, 2), (24, .aload_n 0, 1), (25, .getfield 7, 3), (28, .bipush 9, 2), (30, .iload_n 2, 1), (31, .iadd, 1), (32, .iaload, 1), (33, .if_icmp .ge 115, 3), (36, .iconst 0, 1), (37, .istore 5, 2), (39, .iload 5, 2), (41, .aload_n 0, 1), (42, .getfield 7, 3), (45, .iconst 3, 1), (46, .iload_n 2, 1), (47, .iadd, 1), (48, .iaload, 1), (49, .if_icmp .ge 93, 3), (52, .iconst 0, 1), (53, .istore 6, 2), (55, .iload 6, 2), (57, .iconst 4, 1), (58, .if_icmp .ge 78, 3), (61, .aload_n 0, 1), (62, .iload_n 1, 1), (63, .iload_n 2, 1), (64, .iload 5, 2), (66, .iload 4, 2), (68, .iload 6, 2), (70, .invokevirtual 214, 3), (73, .aload_n 0, 1), (74, .getfield 200, 3), (77, .ifCond .ne 18, 3), (80, .aload_n 0, 1), (81, .iload_n 1, 1), (82, .iload_n 2, 1), (83, .iload 5, 2), (85, .iload 4, 2), (87, .iload 6, 2), (89, .invokevirtual 242, 3), (92, .goto 4, 3), (95, .iconst (-1), 1), (96, .istore 7, 2), (98, .iload 7, 2), (100, .iload_n 3, 1), (101, .if_icmp .le 29, 3), (104, .iload 7, 2), (106, .istore_n 3, 1), (107, .aload_n 0, 1), (108, .iload_n 2, 1), (109, .putfield 245, 3), (112, .aload_n 0, 1), (113, .iload 5, 2), (115, .putfield 248, 3), (118, .aload_n 0, 1), (119, .iload 4, 2), (121, .putfield 251, 3), (124, .aload_n 0, 1), (125, .iload 6, 2), (127, .putfield 254, 3), (130, .iinc 6 1, 3), (133, .goto (-78), 3), (136, .iinc 5 1, 3), (139, .goto (-100), 3), (142, .iinc 4 1, 3), (145, .goto (-123), 3), (148, .iload_n 3, 1), (149, .iconst (-1), 1), (150, .if_icmp .eq 5, 3), (153, .iconst 1, 1), (154, .ireturn, 1), (155, .iinc 2 1, 3), (158, .goto (-156), 3), (161, .iconst 0, 1), (162, .ireturn, 1)]
set_option maxRecDepth 100000 in
theorem T_X11_finds : ∀ q ∈ I_X11_finds, decode cX11_finds q.1 = .ok (q.2.1, q.2.2) := by decide +kernel
def f_X11_finds_j130 (x1 : Int32) (x2 : Int32) (x3 : Int32) (x4 : Int32) (x5 : Int32) (x6 : Int32) (σ : St) : Option ((Int32 × Int32 × St) ⊕ (Int32 × St)) :=
  some (.inl (x3, x6 + 1, σ))
set_option maxHeartbeats 4000000 in
set_option maxRecDepth 100000 in
theorem w_X11_finds_j130 (X : Cx g RX11 cX11_finds 8 (some .boolean) p s m args meth c) (x1 : Int32) (x2 : Int32) (x3 : Int32) (x4 : Int32) (x5 : Int32) (x6 : Int32) (σ : St) {w : (Int32 × Int32 × St) ⊕ (Int32 × St)} (KB : ∀ (v0_ : Int32) (v1_ : Int32) (v2_ : St), w = .inl (v0_, v1_, v2_) → ∀ (H : Heap) (locs : List Loc) (ls : Array Slot), Wd g s v2_ H locs → lv_has ls 8 [(0, .ref (g.2.2 (101))), (1, .int (x1)), (2, .int (x2)), (3, .int (v0_)), (4, .int (x4)), (5, .int (x5)), (6, .int (v1_))] → W p l e (rmm 4 104) s m args below meth c H locs 0 0 Q (F0 m 55 ls [])) (KX0 : ∀ (v0_ : Int32) (v1_ : St), w = .inr (v0_, v1_) → ∀ (H : Heap) (locs : List Loc) (ls : Array Slot), Wd g s v1_ H locs → lv_has ls 8 [(0, .ref (g.2.2 (101))), (1, .int (x1)), (2, .int (x2)), (3, .int (v0_)), (4, .int (x4)), (5, .int (x5))] → W p l e (rmm 4 104) s m args below meth c H locs 0 0 Q (F0 m 136 ls [])) {H : Heap} {locs : List Loc} {ls : Array Slot} (Y : Wd g s σ H locs) (hl : lv_has ls 8 [(0, .ref (g.2.2 (101))), (1, .int (x1)), (2, .int (x2)), (3, .int (x3)), (4, .int (x4)), (5, .int (x5)), (6, .int (x6))]) (h : f_X11_finds_j130 x1 x2 x3 x4 x5 x6 σ = some w) : W p l e (rmm 4 104) s m args below meth c H locs 0 0 Q (F0 m 130 ls []) := by
  unfold f_X11_finds_j130 at h
  refine lv_iinc (v := x6 + 1) (lv' := [(6, .int (x6 + 1)), (0, .ref (g.2.2 (101))), (1, .int (x1)), (2, .int (x2)), (3, .int (x3)), (4, .int (x4)), (5, .int (x5))]) X.1 X.2.1 (dk T_X11_finds 75 rfl) hl (k := 6) rfl (icx ic_1) (Nat.le_of_ble_eq_true rfl) rfl (fun ls hl => ?_)
  refine lv_goto (tgt := 55) X.1 X.2.1 (dk T_X11_finds 76 rfl) rfl ?_
  exact KB x3 (x6 + 1) σ (Option.some.inj h).symm _ _ _ Y (lv_sub hl [1, 2, 3, 4, 5, 6, 0] rfl)
def f_X11_finds_j96 (x1 : Int32) (x2 : Int32) (x3 : Int32) (x4 : Int32) (x5 : Int32) (x6 : Int32) (s0 : Int32) (σ : St) : Option ((Int32 × Int32 × St) ⊕ (Int32 × St)) :=
  if s0 ≤ x3 then f_X11_finds_j130 x1 x2 x3 x4 x5 x6 σ else f_X11_finds_j130 x1 x2 s0 x4 x5 x6 (up (up (up (up σ 101 25 x2) 101 22 x5) 101 23 x4) 101 24 x6)
set_option maxHeartbeats 4000000 in
set_option maxRecDepth 100000 in
theorem w_X11_finds_j96 (X : Cx g RX11 cX11_finds 8 (some .boolean) p s m args meth c) (x1 : Int32) (x2 : Int32) (x3 : Int32) (x4 : Int32) (x5 : Int32) (x6 : Int32) (s0 : Int32) (σ : St) {w : (Int32 × Int32 × St) ⊕ (Int32 × St)} (KB : ∀ (v0_ : Int32) (v1_ : Int32) (v2_ : St), w = .inl (v0_, v1_, v2_) → ∀ (H : Heap) (locs : List Loc) (ls : Array Slot), Wd g s v2_ H locs → lv_has ls 8 [(0, .ref (g.2.2 (101))), (1, .int (x1)), (2, .int (x2)), (3, .int (v0_)), (4, .int (x4)), (5, .int (x5)), (6, .int (v1_))] → W p l e (rmm 4 104) s m args below meth c H locs 0 0 Q (F0 m 55 ls [])) (KX0 : ∀ (v0_ : Int32) (v1_ : St), w = .inr (v0_, v1_) → ∀ (H : Heap) (locs : List Loc) (ls : Array Slot), Wd g s v1_ H locs → lv_has ls 8 [(0, .ref (g.2.2 (101))), (1, .int (x1)), (2, .int (x2)), (3, .int (v0_)), (4, .int (x4)), (5, .int (x5))] → W p l e (rmm 4 104) s m args below meth c H locs 0 0 Q (F0 m 136 ls [])) {H : Heap} {locs : List Loc} {ls : Array Slot} (Y : Wd g s σ H locs) (hl : lv_has ls 8 [(0, .ref (g.2.2 (101))), (1, .int (x1)), (2, .int (x2)), (3, .int (x3)), (4, .int (x4)), (5, .int (x5)), (6, .int (x6))]) (h : f_X11_finds_j96 x1 x2 x3 x4 x5 x6 s0 σ = some w) : W p l e (rmm 4 104) s m args below meth c H locs 0 0 Q (F0 m 96 ls [.int (s0)]) := by
  unfold f_X11_finds_j96 at h
  refine lv_istore (lv' := [(7, .int (s0)), (0, .ref (g.2.2 (101))), (1, .int (x1)), (2, .int (x2)), (3, .int (x3)), (4, .int (x4)), (5, .int (x5)), (6, .int (x6))]) X.1 X.2.1 (dk T_X11_finds 57 rfl) hl (Nat.le_of_ble_eq_true rfl) rfl (fun ls hl => ?_)
  refine lv_iload X.1 X.2.1 (dk T_X11_finds 58 rfl) (lv_at hl 0 rfl) ?_
  refine lv_iload_n X.1 X.2.1 (dk T_X11_finds 59 rfl) rfl (lv_at hl 4 rfl) ?_
  refine lv_icmp_le (tgt := 130) X.1 X.2.1 (dk T_X11_finds 60 rfl) rfl (fun c11 => ?_) (fun c11 => ?_)
  · replace h := ipos c11 h
    exact w_X11_finds_j130 X x1 x2 x3 x4 x5 x6 σ KB KX0 Y (lv_sub hl [1, 2, 3, 4, 5, 6, 7] rfl) h
  · replace h := ineg c11 h
    refine lv_iload X.1 X.2.1 (dk T_X11_finds 61 rfl) (lv_at hl 0 rfl) ?_
    refine lv_istore_n (lv' := [(3, .int (s0)), (7, .int (s0)), (0, .ref (g.2.2 (101))), (1, .int (x1)), (2, .int (x2)), (4, .int (x4)), (5, .int (x5)), (6, .int (x6))]) X.1 X.2.1 (dk T_X11_finds 62 rfl) rfl hl (Nat.le_of_ble_eq_true rfl) rfl (fun ls hl => ?_)
    refine lv_aload_n X.1 X.2.1 (dk T_X11_finds 63 rfl) rfl (lv_at hl 2 rfl) ?_
    refine lv_iload_n X.1 X.2.1 (dk T_X11_finds 64 rfl) rfl (lv_at hl 4 rfl) ?_
    refine gp X Y fp_X11_245 rfl (nar_int _) (dk T_X11_finds 65 rfl) (fun H locs Y => ?_)
    refine lv_aload_n X.1 X.2.1 (dk T_X11_finds 66 rfl) rfl (lv_at hl 2 rfl) ?_
    refine lv_iload X.1 X.2.1 (dk T_X11_finds 67 rfl) (lv_at hl 6 rfl) ?_
    refine gp X Y fp_X11_248 rfl (nar_int _) (dk T_X11_finds 68 rfl) (fun H locs Y => ?_)
    refine lv_aload_n X.1 X.2.1 (dk T_X11_finds 69 rfl) rfl (lv_at hl 2 rfl) ?_
    refine lv_iload X.1 X.2.1 (dk T_X11_finds 70 rfl) (lv_at hl 5 rfl) ?_
    refine gp X Y fp_X11_251 rfl (nar_int _) (dk T_X11_finds 71 rfl) (fun H locs Y => ?_)
    refine lv_aload_n X.1 X.2.1 (dk T_X11_finds 72 rfl) rfl (lv_at hl 2 rfl) ?_
    refine lv_iload X.1 X.2.1 (dk T_X11_finds 73 rfl) (lv_at hl 7 rfl) ?_
    refine gp X Y fp_X11_254 rfl (nar_int _) (dk T_X11_finds 74 rfl) (fun H locs Y => ?_)
    exact w_X11_finds_j130 X x1 x2 s0 x4 x5 x6 (up (up (up (up σ 101 25 x2) 101 22 x5) 101 23 x4) 101 24 x6) KB KX0 Y (lv_sub hl [2, 3, 4, 0, 5, 6, 7] rfl) h
def f_X11_finds_l55 (x1 : Int32) (x2 : Int32) (x4 : Int32) (x5 : Int32) (z : Int32 × Int32 × St) : Option ((Int32 × Int32 × St) ⊕ (Int32 × St)) :=
  if 4 ≤ z.2.1 then some (.inr (z.1, z.2.2)) else (f_X11_judges x1 x2 x5 x4 z.2.1 z.2.2).bind fun q9 => if (q9 101 20) = 0 then (f_X11_commonOf x1 x2 x5 x4 z.2.1 q9).bind fun q12 => f_X11_finds_j96 x1 x2 z.1 x4 x5 z.2.1 q12 q9 else f_X11_finds_j96 x1 x2 z.1 x4 x5 z.2.1 (-1) q9
set_option maxHeartbeats 4000000 in
set_option maxRecDepth 100000 in
theorem w_X11_finds_l55 (X : Cx g RX11 cX11_finds 8 (some .boolean) p s m args meth c) (x1 : Int32) (x2 : Int32) (x4 : Int32) (x5 : Int32) (σ : St) {r : Int32 × St} (KX0 : ∀ (v0_ : Int32) (v1_ : St), r = (v0_, v1_) → ∀ (H : Heap) (locs : List Loc) (ls : Array Slot), Wd g s v1_ H locs → lv_has ls 8 [(0, .ref (g.2.2 (101))), (1, .int (x1)), (2, .int (x2)), (3, .int (v0_)), (4, .int (x4)), (5, .int (x5))] → W p l e (rmm 4 104) s m args below meth c H locs 0 0 Q (F0 m 136 ls [])) : ∀ (n : Nat) (z : Int32 × Int32 × St) {H : Heap} {locs : List Loc} {ls : Array Slot}, Wd g s z.2.2 H locs → lv_has ls 8 [(0, .ref (g.2.2 (101))), (1, .int (x1)), (2, .int (x2)), (3, .int (z.1)), (4, .int (x4)), (5, .int (x5)), (6, .int (z.2.1))] → lp (f_X11_finds_l55 x1 x2 x4 x5) n z = some r → W p l e (rmm 4 104) s m args below meth c H locs 0 0 Q (F0 m 55 ls []) := by
  intro n
  induction n with
  | zero => intro z H locs ls Y hl h; cases h
  | succ n ih =>
    intro z H locs ls Y hl h
    obtain ⟨w, h, hw⟩ := lps h
    have KB : ∀ (v0_ : Int32) (v1_ : Int32) (v2_ : St), w = .inl (v0_, v1_, v2_) → ∀ (H : Heap) (locs : List Loc) (ls : Array Slot), Wd g s v2_ H locs → lv_has ls 8 [(0, .ref (g.2.2 (101))), (1, .int (x1)), (2, .int (x2)), (3, .int (v0_)), (4, .int (x4)), (5, .int (x5)), (6, .int (v1_))] → W p l e (rmm 4 104) s m args below meth c H locs 0 0 Q (F0 m 55 ls []) := fun v0_ v1_ v2_ e H locs ls Y hl => ih (v0_, v1_, v2_) Y hl (lpl hw e)
    have KX0 := fun (v0_ : Int32) (v1_ : St) (e : w = .inr (v0_, v1_)) => KX0 v0_ v1_ (lpr hw e)
    unfold f_X11_finds_l55 at h
    refine lv_iload X.1 X.2.1 (dk T_X11_finds 35 rfl) (lv_at hl 6 rfl) ?_
    refine lv_iconst (v := 4) X.1 X.2.1 (dk T_X11_finds 36 rfl) ic_4 ?_
    refine lv_icmp_ge (tgt := 136) X.1 X.2.1 (dk T_X11_finds 37 rfl) rfl (fun c8 => ?_) (fun c8 => ?_)
    · replace h := ipos c8 h
      exact KX0 z.1 z.2.2 (Option.some.inj h).symm _ _ _ Y (lv_sub hl [0, 1, 2, 3, 4, 5] rfl)
    · replace h := ineg c8 h
      refine lv_aload_n X.1 X.2.1 (dk T_X11_finds 38 rfl) rfl (lv_at hl 0 rfl) ?_
      refine lv_iload_n X.1 X.2.1 (dk T_X11_finds 39 rfl) rfl (lv_at hl 1 rfl) ?_
      refine lv_iload_n X.1 X.2.1 (dk T_X11_finds 40 rfl) rfl (lv_at hl 2 rfl) ?_
      refine lv_iload X.1 X.2.1 (dk T_X11_finds 41 rfl) (lv_at hl 5 rfl) ?_
      refine lv_iload X.1 X.2.1 (dk T_X11_finds 42 rfl) (lv_at hl 4 rfl) ?_
      refine lv_iload X.1 X.2.1 (dk T_X11_finds 43 rfl) (lv_at hl 6 rfl) ?_
      obtain ⟨q9, hq9, h⟩ := bs h
      refine gvV (rest := []) X Y (c_X11_judges x1 x2 x5 x4 z.2.1 z.2.2 hq9) cb_X11_214 rfl hl.1 rfl rfl (Nat.le_of_ble_eq_true rfl) ⟨Nat.le_of_ble_eq_true rfl, Nat.le_of_ble_eq_true rfl⟩ (dk T_X11_finds 44 rfl) (fun H locs Y => ?_)
      refine lv_aload_n X.1 X.2.1 (dk T_X11_finds 45 rfl) rfl (lv_at hl 0 rfl) ?_
      refine gg X Y fl_X11_200 rfl rfl (dk T_X11_finds 46 rfl) ?_
      refine lv_if_ne (tgt := 95) X.1 X.2.1 (dk T_X11_finds 47 rfl) rfl (fun c10 => ?_) (fun c10 => ?_)
      · replace h := ineg c10 h
        refine lv_iconst (v := (-1)) X.1 X.2.1 (dk T_X11_finds 56 rfl) ic_m1 ?_
        exact w_X11_finds_j96 X x1 x2 z.1 x4 x5 z.2.1 (-1) q9 KB KX0 Y (lv_sub hl [0, 1, 2, 3, 4, 5, 6] rfl) h
      · replace h := ipos c10 h
        refine lv_aload_n X.1 X.2.1 (dk T_X11_finds 48 rfl) rfl (lv_at hl 0 rfl) ?_
        refine lv_iload_n X.1 X.2.1 (dk T_X11_finds 49 rfl) rfl (lv_at hl 1 rfl) ?_
        refine lv_iload_n X.1 X.2.1 (dk T_X11_finds 50 rfl) rfl (lv_at hl 2 rfl) ?_
        refine lv_iload X.1 X.2.1 (dk T_X11_finds 51 rfl) (lv_at hl 5 rfl) ?_
        refine lv_iload X.1 X.2.1 (dk T_X11_finds 52 rfl) (lv_at hl 4 rfl) ?_
        refine lv_iload X.1 X.2.1 (dk T_X11_finds 53 rfl) (lv_at hl 6 rfl) ?_
        obtain ⟨q12, hq12, h⟩ := bs h
        refine gvI (rest := []) X Y (c_X11_commonOf x1 x2 x5 x4 z.2.1 q9 hq12) cb_X11_242 rfl hl.1 rfl rfl (Nat.le_of_ble_eq_true rfl) ⟨Nat.le_of_ble_eq_true rfl, Nat.le_of_ble_eq_true rfl⟩ (dk T_X11_finds 54 rfl) (fun H locs Y => ?_)
        refine lv_goto (tgt := 96) X.1 X.2.1 (dk T_X11_finds 55 rfl) rfl ?_
        exact w_X11_finds_j96 X x1 x2 z.1 x4 x5 z.2.1 q12 q9 KB KX0 Y (lv_sub hl [0, 1, 2, 3, 4, 5, 6] rfl) h
def f_X11_finds_l39 (x1 : Int32) (x2 : Int32) (x4 : Int32) (z : Int32 × Int32 × St) : Option ((Int32 × Int32 × St) ⊕ (Int32 × St)) :=
  chk (inb (3 + x2) 761) (if (z.2.2 102 (3 + x2).toNatClampNeg) ≤ z.2.1 then some (.inr (z.1, z.2.2)) else (lp (f_X11_finds_l55 x1 x2 x4 z.2.1) FU (z.1, 0, z.2.2)).bind fun q13 => some (.inl (q13.1, z.2.1 + 1, q13.2)))
set_option maxHeartbeats 4000000 in
set_option maxRecDepth 100000 in
theorem w_X11_finds_l39 (X : Cx g RX11 cX11_finds 8 (some .boolean) p s m args meth c) (x1 : Int32) (x2 : Int32) (x4 : Int32) (σ : St) {r : Int32 × St} (KX0 : ∀ (v0_ : Int32) (v1_ : St), r = (v0_, v1_) → ∀ (H : Heap) (locs : List Loc) (ls : Array Slot), Wd g s v1_ H locs → lv_has ls 8 [(0, .ref (g.2.2 (101))), (1, .int (x1)), (2, .int (x2)), (3, .int (v0_)), (4, .int (x4))] → W p l e (rmm 4 104) s m args below meth c H locs 0 0 Q (F0 m 142 ls [])) : ∀ (n : Nat) (z : Int32 × Int32 × St) {H : Heap} {locs : List Loc} {ls : Array Slot}, Wd g s z.2.2 H locs → lv_has ls 8 [(0, .ref (g.2.2 (101))), (1, .int (x1)), (2, .int (x2)), (3, .int (z.1)), (4, .int (x4)), (5, .int (z.2.1))] → lp (f_X11_finds_l39 x1 x2 x4) n z = some r → W p l e (rmm 4 104) s m args below meth c H locs 0 0 Q (F0 m 39 ls []) := by
  intro n
  induction n with
  | zero => intro z H locs ls Y hl h; cases h
  | succ n ih =>
    intro z H locs ls Y hl h
    obtain ⟨w, h, hw⟩ := lps h
    have KB : ∀ (v0_ : Int32) (v1_ : Int32) (v2_ : St), w = .inl (v0_, v1_, v2_) → ∀ (H : Heap) (locs : List Loc) (ls : Array Slot), Wd g s v2_ H locs → lv_has ls 8 [(0, .ref (g.2.2 (101))), (1, .int (x1)), (2, .int (x2)), (3, .int (v0_)), (4, .int (x4)), (5, .int (v1_))] → W p l e (rmm 4 104) s m args below meth c H locs 0 0 Q (F0 m 39 ls []) := fun v0_ v1_ v2_ e H locs ls Y hl => ih (v0_, v1_, v2_) Y hl (lpl hw e)
    have KX0 := fun (v0_ : Int32) (v1_ : St) (e : w = .inr (v0_, v1_)) => KX0 v0_ v1_ (lpr hw e)
    unfold f_X11_finds_l39 at h
    refine lv_iload X.1 X.2.1 (dk T_X11_finds 25 rfl) (lv_at hl 5 rfl) ?_
    refine lv_aload_n X.1 X.2.1 (dk T_X11_finds 26 rfl) rfl (lv_at hl 0 rfl) ?_
    refine gg X Y fl_X11_7 rfl rfl (dk T_X11_finds 27 rfl) ?_
    refine lv_iconst (v := 3) X.1 X.2.1 (dk T_X11_finds 28 rfl) ic_3 ?_
    refine lv_iload_n X.1 X.2.1 (dk T_X11_finds 29 rfl) rfl (lv_at hl 2 rfl) ?_
    refine lv_iadd X.1 X.2.1 (dk T_X11_finds 30 rfl) ?_
    obtain ⟨g6, h⟩ := gd h
    refine gil X Y rfl (inp g6) (dk T_X11_finds 31 rfl) ?_
    refine lv_icmp_ge (tgt := 142) X.1 X.2.1 (dk T_X11_finds 32 rfl) rfl (fun c7 => ?_) (fun c7 => ?_)
    · replace h := ipos c7 h
      exact KX0 z.1 z.2.2 (Option.some.inj h).symm _ _ _ Y (lv_sub hl [0, 1, 2, 3, 4] rfl)
    · replace h := ineg c7 h
      refine lv_iconst (v := 0) X.1 X.2.1 (dk T_X11_finds 33 rfl) ic_0 ?_
      refine lv_istore (lv' := [(6, .int (0)), (0, .ref (g.2.2 (101))), (1, .int (x1)), (2, .int (x2)), (3, .int (z.1)), (4, .int (x4)), (5, .int (z.2.1))]) X.1 X.2.1 (dk T_X11_finds 34 rfl) hl (Nat.le_of_ble_eq_true rfl) rfl (fun ls hl => ?_)
      obtain ⟨q13, hq13, h⟩ := bs h
      refine w_X11_finds_l55 X x1 x2 x4 z.2.1 σ (fun v0_ v1_ e H locs ls Y hl => ?_) FU (z.1, 0, z.2.2) Y (lv_sub hl [1, 2, 3, 4, 5, 6, 0] rfl) hq13
      · obtain ⟨rfl, rfl⟩ : v0_ = q13.1 ∧ v1_ = q13.2 := ⟨by rw [e], by rw [e]⟩
        refine lv_iinc (v := z.2.1 + 1) (lv' := [(5, .int (z.2.1 + 1)), (0, .ref (g.2.2 (101))), (1, .int (x1)), (2, .int (x2)), (3, .int (q13.1)), (4, .int (x4))]) X.1 X.2.1 (dk T_X11_finds 77 rfl) hl (k := 5) rfl (icx ic_1) (Nat.le_of_ble_eq_true rfl) rfl (fun ls hl => ?_)
        refine lv_goto (tgt := 39) X.1 X.2.1 (dk T_X11_finds 78 rfl) rfl ?_
        exact KB q13.1 (z.2.1 + 1) q13.2 (Option.some.inj h).symm _ _ _ Y (lv_sub hl [1, 2, 3, 4, 5, 0] rfl)
def f_X11_finds_l22 (x1 : Int32) (x2 : Int32) (z : Int32 × Int32 × St) : Option ((Int32 × Int32 × St) ⊕ (Int32 × St)) :=
  chk (inb (9 + x2) 761) (if (z.2.2 102 (9 + x2).toNatClampNeg) ≤ z.2.1 then some (.inr (z.1, z.2.2)) else (lp (f_X11_finds_l39 x1 x2 z.2.1) FU (z.1, 0, z.2.2)).bind fun q14 => some (.inl (q14.1, z.2.1 + 1, q14.2)))
set_option maxHeartbeats 4000000 in
set_option maxRecDepth 100000 in
theorem w_X11_finds_l22 (X : Cx g RX11 cX11_finds 8 (some .boolean) p s m args meth c) (x1 : Int32) (x2 : Int32) (σ : St) {r : Int32 × St} (KX0 : ∀ (v0_ : Int32) (v1_ : St), r = (v0_, v1_) → ∀ (H : Heap) (locs : List Loc) (ls : Array Slot), Wd g s v1_ H locs → lv_has ls 8 [(0, .ref (g.2.2 (101))), (1, .int (x1)), (2, .int (x2)), (3, .int (v0_))] → W p l e (rmm 4 104) s m args below meth c H locs 0 0 Q (F0 m 148 ls [])) : ∀ (n : Nat) (z : Int32 × Int32 × St) {H : Heap} {locs : List Loc} {ls : Array Slot}, Wd g s z.2.2 H locs → lv_has ls 8 [(0, .ref (g.2.2 (101))), (1, .int (x1)), (2, .int (x2)), (3, .int (z.1)), (4, .int (z.2.1))] → lp (f_X11_finds_l22 x1 x2) n z = some r → W p l e (rmm 4 104) s m args below meth c H locs 0 0 Q (F0 m 22 ls []) := by
  intro n
  induction n with
  | zero => intro z H locs ls Y hl h; cases h
  | succ n ih =>
    intro z H locs ls Y hl h
    obtain ⟨w, h, hw⟩ := lps h
    have KB : ∀ (v0_ : Int32) (v1_ : Int32) (v2_ : St), w = .inl (v0_, v1_, v2_) → ∀ (H : Heap) (locs : List Loc) (ls : Array Slot), Wd g s v2_ H locs → lv_has ls 8 [(0, .ref (g.2.2 (101))), (1, .int (x1)), (2, .int (x2)), (3, .int (v0_)), (4, .int (v1_))] → W p l e (rmm 4 104) s m args below meth c H locs 0 0 Q (F0 m 22 ls []) := fun v0_ v1_ v2_ e H locs ls Y hl => ih (v0_, v1_, v2_) Y hl (lpl hw e)
    have KX0 := fun (v0_ : Int32) (v1_ : St) (e : w = .inr (v0_, v1_)) => KX0 v0_ v1_ (lpr hw e)
    unfold f_X11_finds_l22 at h
    refine lv_iload X.1 X.2.1 (dk T_X11_finds 15 rfl) (lv_at hl 4 rfl) ?_
    refine lv_aload_n X.1 X.2.1 (dk T_X11_finds 16 rfl) rfl (lv_at hl 0 rfl) ?_
    refine gg X Y fl_X11_7 rfl rfl (dk T_X11_finds 17 rfl) ?_
    refine lv_bipush (v := 9) X.1 X.2.1 (dk T_X11_finds 18 rfl) bp_9 ?_
    refine lv_iload_n X.1 X.2.1 (dk T_X11_finds 19 rfl) rfl (lv_at hl 2 rfl) ?_
    refine lv_iadd X.1 X.2.1 (dk T_X11_finds 20 rfl) ?_
    obtain ⟨g4, h⟩ := gd h
    refine gil X Y rfl (inp g4) (dk T_X11_finds 21 rfl) ?_
    refine lv_icmp_ge (tgt := 148) X.1 X.2.1 (dk T_X11_finds 22 rfl) rfl (fun c5 => ?_) (fun c5 => ?_)
    · replace h := ipos c5 h
      exact KX0 z.1 z.2.2 (Option.some.inj h).symm _ _ _ Y (lv_sub hl [0, 1, 2, 3] rfl)
    · replace h := ineg c5 h
      refine lv_iconst (v := 0) X.1 X.2.1 (dk T_X11_finds 23 rfl) ic_0 ?_
      refine lv_istore (lv' := [(5, .int (0)), (0, .ref (g.2.2 (101))), (1, .int (x1)), (2, .int (x2)), (3, .int (z.1)), (4, .int (z.2.1))]) X.1 X.2.1 (dk T_X11_finds 24 rfl) hl (Nat.le_of_ble_eq_true rfl) rfl (fun ls hl => ?_)
      obtain ⟨q14, hq14, h⟩ := bs h
      refine w_X11_finds_l39 X x1 x2 z.2.1 σ (fun v0_ v1_ e H locs ls Y hl => ?_) FU (z.1, 0, z.2.2) Y (lv_sub hl [1, 2, 3, 4, 5, 0] rfl) hq14
      · obtain ⟨rfl, rfl⟩ : v0_ = q14.1 ∧ v1_ = q14.2 := ⟨by rw [e], by rw [e]⟩
        refine lv_iinc (v := z.2.1 + 1) (lv' := [(4, .int (z.2.1 + 1)), (0, .ref (g.2.2 (101))), (1, .int (x1)), (2, .int (x2)), (3, .int (q14.1))]) X.1 X.2.1 (dk T_X11_finds 79 rfl) hl (k := 4) rfl (icx ic_1) (Nat.le_of_ble_eq_true rfl) rfl (fun ls hl => ?_)
        refine lv_goto (tgt := 22) X.1 X.2.1 (dk T_X11_finds 80 rfl) rfl ?_
        exact KB q14.1 (z.2.1 + 1) q14.2 (Option.some.inj h).symm _ _ _ Y (lv_sub hl [1, 2, 3, 4, 0] rfl)
def f_X11_finds_l2 (x1 : Int32) (z : Int32 × St) : Option ((Int32 × St) ⊕ ((St) ⊕ (St))) :=
  chk (inb 0 761) (if (z.2 102 (0 : Int32).toNatClampNeg) ≤ z.1 then some (.inr (.inl z.2)) else (f_X11_looks z.1 z.2).bind fun q3 => (lp (f_X11_finds_l22 x1 z.1) FU ((-1), 0, q3)).bind fun q15 => if q15.1 = (-1) then some (.inl (z.1 + 1, q15.2)) else some (.inr (.inr q15.2)))
set_option maxHeartbeats 4000000 in
set_option maxRecDepth 100000 in
theorem w_X11_finds_l2 (X : Cx g RX11 cX11_finds 8 (some .boolean) p s m args meth c) (x1 : Int32) (σ : St) {r : (St) ⊕ (St)} (KX0 : ∀ (v : St), r = (.inl v) → ∀ (H : Heap) (locs : List Loc) (ls : Array Slot), Wd g s v H locs → lv_has ls 8 [] → W p l e (rmm 4 104) s m args below meth c H locs 0 0 Q (F0 m 161 ls [])) (KX1 : ∀ (v : St), r = (.inr v) → ∀ (H : Heap) (locs : List Loc) (ls : Array Slot), Wd g s v H locs → lv_has ls 8 [] → W p l e (rmm 4 104) s m args below meth c H locs 0 0 Q (F0 m 153 ls [])) : ∀ (n : Nat) (z : Int32 × St) {H : Heap} {locs : List Loc} {ls : Array Slot}, Wd g s z.2 H locs → lv_has ls 8 [(0, .ref (g.2.2 (101))), (1, .int (x1)), (2, .int (z.1))] → lp (f_X11_finds_l2 x1) n z = some r → W p l e (rmm 4 104) s m args below meth c H locs 0 0 Q (F0 m 2 ls []) := by
  intro n
  induction n with
  | zero => intro z H locs ls Y hl h; cases h
  | succ n ih =>
    intro z H locs ls Y hl h
    obtain ⟨w, h, hw⟩ := lps h
    have KB : ∀ (v0_ : Int32) (v1_ : St), w = .inl (v0_, v1_) → ∀ (H : Heap) (locs : List Loc) (ls : Array Slot), Wd g s v1_ H locs → lv_has ls 8 [(0, .ref (g.2.2 (101))), (1, .int (x1)), (2, .int (v0_))] → W p l e (rmm 4 104) s m args below meth c H locs 0 0 Q (F0 m 2 ls []) := fun v0_ v1_ e H locs ls Y hl => ih (v0_, v1_) Y hl (lpl hw e)
    have KX0 := fun (v : St) (e : w = .inr (.inl v)) => KX0 v (lpr hw e)
    have KX1 := fun (v : St) (e : w = .inr (.inr v)) => KX1 v (lpr hw e)
    unfold f_X11_finds_l2 at h
    refine lv_iload_n X.1 X.2.1 (dk T_X11_finds 2 rfl) rfl (lv_at hl 2 rfl) ?_
    refine lv_aload_n X.1 X.2.1 (dk T_X11_finds 3 rfl) rfl (lv_at hl 0 rfl) ?_
    refine gg X Y fl_X11_7 rfl rfl (dk T_X11_finds 4 rfl) ?_
    refine lv_iconst (v := 0) X.1 X.2.1 (dk T_X11_finds 5 rfl) ic_0 ?_
    obtain ⟨g1, h⟩ := gd h
    refine gil X Y rfl (inp g1) (dk T_X11_finds 6 rfl) ?_
    refine lv_icmp_ge (tgt := 161) X.1 X.2.1 (dk T_X11_finds 7 rfl) rfl (fun c2 => ?_) (fun c2 => ?_)
    · replace h := ipos c2 h
      exact KX0 z.2 (Option.some.inj h).symm _ _ _ Y (lv_sub hl [] rfl)
    · replace h := ineg c2 h
      refine lv_aload_n X.1 X.2.1 (dk T_X11_finds 8 rfl) rfl (lv_at hl 0 rfl) ?_
      refine lv_iload_n X.1 X.2.1 (dk T_X11_finds 9 rfl) rfl (lv_at hl 2 rfl) ?_
      obtain ⟨q3, hq3, h⟩ := bs h
      refine gvV (rest := []) X Y (c_X11_looks z.1 z.2 hq3) cb_X11_145 rfl hl.1 rfl rfl (Nat.le_of_ble_eq_true rfl) ⟨Nat.le_of_ble_eq_true rfl, Nat.le_of_ble_eq_true rfl⟩ (dk T_X11_finds 10 rfl) (fun H locs Y => ?_)
      refine lv_iconst (v := (-1)) X.1 X.2.1 (dk T_X11_finds 11 rfl) ic_m1 ?_
      refine lv_istore_n (lv' := [(3, .int ((-1))), (0, .ref (g.2.2 (101))), (1, .int (x1)), (2, .int (z.1))]) X.1 X.2.1 (dk T_X11_finds 12 rfl) rfl hl (Nat.le_of_ble_eq_true rfl) rfl (fun ls hl => ?_)
      refine lv_iconst (v := 0) X.1 X.2.1 (dk T_X11_finds 13 rfl) ic_0 ?_
      refine lv_istore (lv' := [(4, .int (0)), (3, .int ((-1))), (0, .ref (g.2.2 (101))), (1, .int (x1)), (2, .int (z.1))]) X.1 X.2.1 (dk T_X11_finds 14 rfl) hl (Nat.le_of_ble_eq_true rfl) rfl (fun ls hl => ?_)
      obtain ⟨q15, hq15, h⟩ := bs h
      refine w_X11_finds_l22 X x1 z.1 σ (fun v0_ v1_ e H locs ls Y hl => ?_) FU ((-1), 0, q3) Y (lv_sub hl [2, 3, 4, 1, 0] rfl) hq15
      · obtain ⟨rfl, rfl⟩ : v0_ = q15.1 ∧ v1_ = q15.2 := ⟨by rw [e], by rw [e]⟩
        refine lv_iload_n X.1 X.2.1 (dk T_X11_finds 81 rfl) rfl (lv_at hl 3 rfl) ?_
        refine lv_iconst (v := (-1)) X.1 X.2.1 (dk T_X11_finds 82 rfl) ic_m1 ?_
        refine lv_icmp_eq (tgt := 155) X.1 X.2.1 (dk T_X11_finds 83 rfl) rfl (fun c16 => ?_) (fun c16 => ?_)
        · replace h := ipos c16 h
          refine lv_iinc (v := z.1 + 1) (lv' := [(2, .int (z.1 + 1)), (0, .ref (g.2.2 (101))), (1, .int (x1)), (3, .int (q15.1))]) X.1 X.2.1 (dk T_X11_finds 86 rfl) hl (k := 2) rfl (icx ic_1) (Nat.le_of_ble_eq_true rfl) rfl (fun ls hl => ?_)
          refine lv_goto (tgt := 2) X.1 X.2.1 (dk T_X11_finds 87 rfl) rfl ?_
          exact KB (z.1 + 1) q15.2 (Option.some.inj h).symm _ _ _ Y (lv_sub hl [1, 2, 0] rfl)
        · replace h := ineg c16 h
          exact KX1 q15.2 (Option.some.inj h).symm _ _ _ Y (lv_sub hl [] rfl)
def f_X11_finds_0 (x1 : Int32) (σ : St) : Option (Int32 × St) :=
  (lp (f_X11_finds_l2 x1) FU (0, σ)).bind fun q17 => Sum.elim (fun v18 => some (0, v18)) (fun v19 => some (1, v19)) q17
set_option maxHeartbeats 4000000 in
set_option maxRecDepth 100000 in
theorem w_X11_finds_0 (X : Cx g RX11 cX11_finds 8 (some .boolean) p s m args meth c) (x1 : Int32) (σ : St) {w : Int32 × St} (KR : ∀ (H : Heap) (locs : List Loc) (ls : Array Slot) (pc : Nat), Wd g s w.2 H locs → decode cX11_finds pc = .ok (.ireturn, 1) → W p l e (rmm 4 104) s m args below meth c H locs 0 0 Q (F0 m pc ls [.int (w.1)])) {H : Heap} {locs : List Loc} {ls : Array Slot} (Y : Wd g s σ H locs) (hl : lv_has ls 8 [(0, .ref (g.2.2 (101))), (1, .int (x1))]) (h : f_X11_finds_0 x1 σ = some w) : W p l e (rmm 4 104) s m args below meth c H locs 0 0 Q (F0 m 0 ls []) := by
  unfold f_X11_finds_0 at h
  refine lv_iconst (v := 0) X.1 X.2.1 (dk T_X11_finds 0 rfl) ic_0 ?_
  refine lv_istore_n (lv' := [(2, .int (0)), (0, .ref (g.2.2 (101))), (1, .int (x1))]) X.1 X.2.1 (dk T_X11_finds 1 rfl) rfl hl (Nat.le_of_ble_eq_true rfl) rfl (fun ls hl => ?_)
  obtain ⟨q17, hq17, h⟩ := bs h
  refine w_X11_finds_l2 X x1 σ (fun v e H locs ls Y hl => ?_) (fun v e H locs ls Y hl => ?_) FU (0, σ) Y (lv_sub hl [1, 2, 0] rfl) hq17
  · obtain rfl := e
    replace h := sel h
    refine lv_iconst (v := 0) X.1 X.2.1 (dk T_X11_finds 88 rfl) ic_0 ?_
    obtain rfl := Option.some.inj h
    exact KR _ _ _ _ Y (dk T_X11_finds 89 rfl)
  · obtain rfl := e
    replace h := ser h
    refine lv_iconst (v := 1) X.1 X.2.1 (dk T_X11_finds 84 rfl) ic_1 ?_
    obtain rfl := Option.some.inj h
    exact KR _ _ _ _ Y (dk T_X11_finds 85 rfl)
def f_X11_finds (x1 : Int32) (σ : St) : Option (Int32 × St) := bzW (f_X11_finds_0 x1 σ)
set_option maxHeartbeats 4000000 in
set_option maxRecDepth 100000 in
theorem c_X11_finds {l : Launch} {g : Geo} (x1 : Int32) (σ : St) {w : Int32 × St} (h : f_X11_finds x1 σ = some w) : CtI l yX11_finds cX11_finds 8 (some .boolean) (rmm 4 104) g [.ref (g.2.2 (101)), .int (x1)] σ w.1 w.2 := by
  obtain ⟨h, hz⟩ := bzW_s h
  exact enI .boolean (by decide) rfl (bz_n hz) (Nat.le_of_ble_eq_true rfl) (fun p e s m args below meth c Q X Y ls hl KR => w_X11_finds_0 X x1 σ KR Y hl h)
def I_X11_nest : List (Nat × Instr × Nat) := [(0, .aload_n 0, 1), (1, .iconst 0, 1), (2, .putfield 71, 3), (5, .aload_n 0, 1), (6, .iload_n 1, 1), (7, .invokevirtual 188, 3), (10, .ifCond .ne 9, 3), (13, .aload_n 0, 1), (14, .iconst 1, 1), (15, .invokevirtual 91, 3), (18, .ireturn, 1), (19, .aload_n 0, 1), (20, .iload_n 1, 1), (21, .invokevirtual 257, 3), (24, .ifCond .ne 9, 3), (27, .aload_n 0, 1), (28, .iconst 2, 1), (29, .invokevirtual 91, 3), (32, .ireturn, 1), (33, .aload_n 0, 1), (34, .invokevirtual 95, 3), (37, .aload_n 0, 1), (38, .iload_n 1, 1), (39, .aload_n 0, 1), (40, .getfield 245, 3), (43, .aload_n 0, 1), (44, .getfield 248, 3), (47, .aload_n 0, 1), (48, .getfield 251, 3), (51, .aload_n 0, 1), (52, .getfield 254, 3), (55, .invokevirtual 221, 3), (58, .ireturn, 1)]
set_option maxRecDepth 100000 in
theorem T_X11_nest : ∀ q ∈ I_X11_nest, decode cX11_nest q.1 = .ok (q.2.1, q.2.2) := by decide +kernel
def f_X11_nest_0 (x1 : Int32) (σ : St) : Option (Int32 × St) :=
  (f_X11_isShape x1 (up σ 101 0 0)).bind fun q1 => if q1 = 0 then (f_X11_fails 1 (up σ 101 0 0)).bind fun q8 => some (q8.1, q8.2) else (f_X11_finds x1 (up σ 101 0 0)).bind fun q3 => if q3.1 = 0 then (f_X11_fails 2 q3.2).bind fun q7 => some (q7.1, q7.2) else (f_X11_changes q3.2).bind fun q5 => (f_X11_places x1 (q5 101 25) (q5 101 22) (q5 101 23) (q5 101 24) q5).bind fun q6 => some (q6.1, q6.2)
set_option maxHeartbeats 4000000 in
set_option maxRecDepth 100000 in
theorem w_X11_nest_0 (X : Cx g RX11 cX11_nest 2 (some .int) p s m args meth c) (x1 : Int32) (σ : St) {w : Int32 × St} (KR : ∀ (H : Heap) (locs : List Loc) (ls : Array Slot) (pc : Nat), Wd g s w.2 H locs → decode cX11_nest pc = .ok (.ireturn, 1) → W p l e (rmm 5 131) s m args below meth c H locs 0 0 Q (F0 m pc ls [.int (w.1)])) {H : Heap} {locs : List Loc} {ls : Array Slot} (Y : Wd g s σ H locs) (hl : lv_has ls 2 [(0, .ref (g.2.2 (101))), (1, .int (x1))]) (h : f_X11_nest_0 x1 σ = some w) : W p l e (rmm 5 131) s m args below meth c H locs 0 0 Q (F0 m 0 ls []) := by
  unfold f_X11_nest_0 at h
  refine lv_aload_n X.1 X.2.1 (dk T_X11_nest 0 rfl) rfl (lv_at hl 0 rfl) ?_
  refine lv_iconst (v := 0) X.1 X.2.1 (dk T_X11_nest 1 rfl) ic_0 ?_
  refine gp X Y fp_X11_71 rfl (nar_int _) (dk T_X11_nest 2 rfl) (fun H locs Y => ?_)
  refine lv_aload_n X.1 X.2.1 (dk T_X11_nest 3 rfl) rfl (lv_at hl 0 rfl) ?_
  refine lv_iload_n X.1 X.2.1 (dk T_X11_nest 4 rfl) rfl (lv_at hl 1 rfl) ?_
  obtain ⟨q1, hq1, h⟩ := bs h
  refine gvI (rest := []) X Y (c_X11_isShape x1 (up σ 101 0 0) hq1) cb_X11_188 rfl hl.1 rfl rfl (Nat.le_of_ble_eq_true rfl) ⟨Nat.le_of_ble_eq_true rfl, Nat.le_of_ble_eq_true rfl⟩ (dk T_X11_nest 5 rfl) (fun H locs Y => ?_)
  refine lv_if_ne (tgt := 19) X.1 X.2.1 (dk T_X11_nest 6 rfl) rfl (fun c2 => ?_) (fun c2 => ?_)
  · replace h := ineg c2 h
    refine lv_aload_n X.1 X.2.1 (dk T_X11_nest 11 rfl) rfl (lv_at hl 0 rfl) ?_
    refine lv_iload_n X.1 X.2.1 (dk T_X11_nest 12 rfl) rfl (lv_at hl 1 rfl) ?_
    obtain ⟨q3, hq3, h⟩ := bs h
    refine gvI (rest := []) X Y (c_X11_finds x1 (up σ 101 0 0) hq3) cb_X11_257 rfl hl.1 rfl rfl (Nat.le_of_ble_eq_true rfl) ⟨Nat.le_of_ble_eq_true rfl, Nat.le_of_ble_eq_true rfl⟩ (dk T_X11_nest 13 rfl) (fun H locs Y => ?_)
    refine lv_if_ne (tgt := 33) X.1 X.2.1 (dk T_X11_nest 14 rfl) rfl (fun c4 => ?_) (fun c4 => ?_)
    · replace h := ineg c4 h
      refine lv_aload_n X.1 X.2.1 (dk T_X11_nest 19 rfl) rfl (lv_at hl 0 rfl) ?_
      obtain ⟨q5, hq5, h⟩ := bs h
      refine gvV (rest := []) X Y (c_X11_changes q3.2 hq5) cb_X11_95 rfl hl.1 rfl rfl (Nat.le_of_ble_eq_true rfl) ⟨Nat.le_of_ble_eq_true rfl, Nat.le_of_ble_eq_true rfl⟩ (dk T_X11_nest 20 rfl) (fun H locs Y => ?_)
      refine lv_aload_n X.1 X.2.1 (dk T_X11_nest 21 rfl) rfl (lv_at hl 0 rfl) ?_
      refine lv_iload_n X.1 X.2.1 (dk T_X11_nest 22 rfl) rfl (lv_at hl 1 rfl) ?_
      refine lv_aload_n X.1 X.2.1 (dk T_X11_nest 23 rfl) rfl (lv_at hl 0 rfl) ?_
      refine gg X Y fl_X11_245 rfl rfl (dk T_X11_nest 24 rfl) ?_
      refine lv_aload_n X.1 X.2.1 (dk T_X11_nest 25 rfl) rfl (lv_at hl 0 rfl) ?_
      refine gg X Y fl_X11_248 rfl rfl (dk T_X11_nest 26 rfl) ?_
      refine lv_aload_n X.1 X.2.1 (dk T_X11_nest 27 rfl) rfl (lv_at hl 0 rfl) ?_
      refine gg X Y fl_X11_251 rfl rfl (dk T_X11_nest 28 rfl) ?_
      refine lv_aload_n X.1 X.2.1 (dk T_X11_nest 29 rfl) rfl (lv_at hl 0 rfl) ?_
      refine gg X Y fl_X11_254 rfl rfl (dk T_X11_nest 30 rfl) ?_
      obtain ⟨q6, hq6, h⟩ := bs h
      refine gvI (rest := []) X Y (c_X11_places x1 (q5 101 25) (q5 101 22) (q5 101 23) (q5 101 24) q5 hq6) cb_X11_221 rfl hl.1 rfl rfl (Nat.le_of_ble_eq_true rfl) ⟨Nat.le_of_ble_eq_true rfl, Nat.le_of_ble_eq_true rfl⟩ (dk T_X11_nest 31 rfl) (fun H locs Y => ?_)
      obtain rfl := Option.some.inj h
      exact KR _ _ _ _ Y (dk T_X11_nest 32 rfl)
    · replace h := ipos c4 h
      refine lv_aload_n X.1 X.2.1 (dk T_X11_nest 15 rfl) rfl (lv_at hl 0 rfl) ?_
      refine lv_iconst (v := 2) X.1 X.2.1 (dk T_X11_nest 16 rfl) ic_2 ?_
      obtain ⟨q7, hq7, h⟩ := bs h
      refine gvI (rest := []) X Y (c_X11_fails 2 q3.2 hq7) cb_X11_91 rfl hl.1 rfl rfl (Nat.le_of_ble_eq_true rfl) ⟨Nat.le_of_ble_eq_true rfl, Nat.le_of_ble_eq_true rfl⟩ (dk T_X11_nest 17 rfl) (fun H locs Y => ?_)
      obtain rfl := Option.some.inj h
      exact KR _ _ _ _ Y (dk T_X11_nest 18 rfl)
  · replace h := ipos c2 h
    refine lv_aload_n X.1 X.2.1 (dk T_X11_nest 7 rfl) rfl (lv_at hl 0 rfl) ?_
    refine lv_iconst (v := 1) X.1 X.2.1 (dk T_X11_nest 8 rfl) ic_1 ?_
    obtain ⟨q8, hq8, h⟩ := bs h
    refine gvI (rest := []) X Y (c_X11_fails 1 (up σ 101 0 0) hq8) cb_X11_91 rfl hl.1 rfl rfl (Nat.le_of_ble_eq_true rfl) ⟨Nat.le_of_ble_eq_true rfl, Nat.le_of_ble_eq_true rfl⟩ (dk T_X11_nest 9 rfl) (fun H locs Y => ?_)
    obtain rfl := Option.some.inj h
    exact KR _ _ _ _ Y (dk T_X11_nest 10 rfl)
def f_X11_nest (x1 : Int32) (σ : St) : Option (Int32 × St) := f_X11_nest_0 x1 σ
set_option maxHeartbeats 4000000 in
set_option maxRecDepth 100000 in
theorem c_X11_nest {l : Launch} {g : Geo} (x1 : Int32) (σ : St) {w : Int32 × St} (h : f_X11_nest x1 σ = some w) : CtI l yX11_nest cX11_nest 2 (some .int) (rmm 5 131) g [.ref (g.2.2 (101)), .int (x1)] σ w.1 w.2 := enI .int (by decide) rfl rfl (Nat.le_of_ble_eq_true rfl) (fun p e s m args below meth c Q X Y ls hl KR => w_X11_nest_0 X x1 σ KR Y hl h)
def I_X11_nestsNext : List (Nat × Instr × Nat) := [(0, .bipush 16, 2), (2, .istore_n 1, 1), (3, .iload_n 1, 1), (4, .ifCond .le 89, 3), (7, .iconst 0, 1), (8, .istore_n 2, 1), (9, .iload_n 2, 1), (10, .aload_n 0, 1), (11, .getfield 7, 3), (14, .iconst 1, 1), (15, .iaload, 1), (16, .if_icmp .ge 71, 3), (19, .aload_n 0, 1), (20, .getfield 7, 3), (23, .sipush 637, 3), (26, .iload_n 2, 1), (27, .iadd, 1), (28, .iaload, 1), (29, .invokestatic 191, 3), (32, .iload_n 1, 1), (33, .if_icmp .ne 48, 3), (36, .aload_n 0, 1), (37, .getfield 7, 3), (40, .sipush 653, 3), (43, .iload_n 2, 1), (44, .iadd, 1), (45, .iaload, 1), (46, .ifCond .le 35, 3), (49, .aload_n 0, 1), (50, .iload_n 2, 1), (51, .invokevirtual 257, 3), (54, .ifCond .eq 27, 3), (57, .aload_n 0, 1), (58, .iload_n 2, 1), (59, .aload_n 0, 1), (60, .getfield 245, 3), (63, .aload_n 0, 1), (64, .getfield 248, 3), (67, .aload_n 0, 1), (68, .getfield 251, 3), (71, .aload_n 0, 1), (72, .getfield 254, 3), (75, .invokevirtual 221, 3), (78, .pop, 1), (79, .iconst 1, 1), (80, .ireturn, 1), (81, .iinc 2 1, 3), (84, .goto (-75), 3), (87, .iinc 1 (-1), 3), (90, .goto (-87), 3), (93, .iconst 0, 1), (94, .ireturn, 1)]
set_option maxRecDepth 100000 in
theorem T_X11_nestsNext : ∀ q ∈ I_X11_nestsNext, decode cX11_nestsNext q.1 = .ok (q.2.1, q.2.2) := by decide +kernel
def f_X11_nestsNext_j81 (x1 : Int32) (x2 : Int32) (σ : St) : Option ((Int32 × St) ⊕ ((St) ⊕ (Int32 × St))) :=
  some (.inl (x2 + 1, σ))
set_option maxHeartbeats 4000000 in
set_option maxRecDepth 100000 in
theorem w_X11_nestsNext_j81 (X : Cx g RX11 cX11_nestsNext 3 (some .boolean) p s m args meth c) (x1 : Int32) (x2 : Int32) (σ : St) {w : (Int32 × St) ⊕ ((St) ⊕ (Int32 × St))} (KB : ∀ (v0_ : Int32) (v1_ : St), w = .inl (v0_, v1_) → ∀ (H : Heap) (locs : List Loc) (ls : Array Slot), Wd g s v1_ H locs → lv_has ls 3 [(0, .ref (g.2.2 (101))), (1, .int (x1)), (2, .int (v0_))] → W p l e (rmm 5 131) s m args below meth c H locs 0 0 Q (F0 m 9 ls [])) (KX0 : ∀ (v : St), w = .inr (.inl v) → ∀ (H : Heap) (locs : List Loc) (ls : Array Slot), Wd g s v H locs → lv_has ls 3 [(0, .ref (g.2.2 (101))), (1, .int (x1))] → W p l e (rmm 5 131) s m args below meth c H locs 0 0 Q (F0 m 87 ls [])) (KX1 : ∀ (v0_ : Int32) (v1_ : St), w = .inr (.inr (v0_, v1_)) → ∀ (H : Heap) (locs : List Loc) (ls : Array Slot), Wd g s v1_ H locs → lv_has ls 3 [(0, .ref (g.2.2 (101))), (2, .int (v0_))] → W p l e (rmm 5 131) s m args below meth c H locs 0 0 Q (F0 m 57 ls [])) {H : Heap} {locs : List Loc} {ls : Array Slot} (Y : Wd g s σ H locs) (hl : lv_has ls 3 [(0, .ref (g.2.2 (101))), (1, .int (x1)), (2, .int (x2))]) (h : f_X11_nestsNext_j81 x1 x2 σ = some w) : W p l e (rmm 5 131) s m args below meth c H locs 0 0 Q (F0 m 81 ls []) := by
  unfold f_X11_nestsNext_j81 at h
  refine lv_iinc (v := x2 + 1) (lv' := [(2, .int (x2 + 1)), (0, .ref (g.2.2 (101))), (1, .int (x1))]) X.1 X.2.1 (dk T_X11_nestsNext 46 rfl) hl (k := 2) rfl (icx ic_1) (Nat.le_of_ble_eq_true rfl) rfl (fun ls hl => ?_)
  refine lv_goto (tgt := 9) X.1 X.2.1 (dk T_X11_nestsNext 47 rfl) rfl ?_
  exact KB (x2 + 1) σ (Option.some.inj h).symm _ _ _ Y (lv_sub hl [1, 2, 0] rfl)
def f_X11_nestsNext_l9 (x1 : Int32) (z : Int32 × St) : Option ((Int32 × St) ⊕ ((St) ⊕ (Int32 × St))) :=
  chk (inb 1 761) (if (z.2 102 (1 : Int32).toNatClampNeg) ≤ z.1 then some (.inr (.inl z.2)) else chk (inb (637 + z.1) 761) ((f_X11_bits (z.2 102 (637 + z.1).toNatClampNeg)).bind fun q5 => if q5 = x1 then chk (inb (653 + z.1) 761) (if (z.2 102 (653 + z.1).toNatClampNeg) ≤ 0 then f_X11_nestsNext_j81 x1 z.1 z.2 else (f_X11_finds z.1 z.2).bind fun q9 => if q9.1 = 0 then f_X11_nestsNext_j81 x1 z.1 q9.2 else some (.inr (.inr (z.1, q9.2)))) else f_X11_nestsNext_j81 x1 z.1 z.2))
set_option maxHeartbeats 4000000 in
set_option maxRecDepth 100000 in
theorem w_X11_nestsNext_l9 (X : Cx g RX11 cX11_nestsNext 3 (some .boolean) p s m args meth c) (x1 : Int32) (σ : St) {r : (St) ⊕ (Int32 × St)} (KX0 : ∀ (v : St), r = (.inl v) → ∀ (H : Heap) (locs : List Loc) (ls : Array Slot), Wd g s v H locs → lv_has ls 3 [(0, .ref (g.2.2 (101))), (1, .int (x1))] → W p l e (rmm 5 131) s m args below meth c H locs 0 0 Q (F0 m 87 ls [])) (KX1 : ∀ (v0_ : Int32) (v1_ : St), r = (.inr (v0_, v1_)) → ∀ (H : Heap) (locs : List Loc) (ls : Array Slot), Wd g s v1_ H locs → lv_has ls 3 [(0, .ref (g.2.2 (101))), (2, .int (v0_))] → W p l e (rmm 5 131) s m args below meth c H locs 0 0 Q (F0 m 57 ls [])) : ∀ (n : Nat) (z : Int32 × St) {H : Heap} {locs : List Loc} {ls : Array Slot}, Wd g s z.2 H locs → lv_has ls 3 [(0, .ref (g.2.2 (101))), (1, .int (x1)), (2, .int (z.1))] → lp (f_X11_nestsNext_l9 x1) n z = some r → W p l e (rmm 5 131) s m args below meth c H locs 0 0 Q (F0 m 9 ls []) := by
  intro n
  induction n with
  | zero => intro z H locs ls Y hl h; cases h
  | succ n ih =>
    intro z H locs ls Y hl h
    obtain ⟨w, h, hw⟩ := lps h
    have KB : ∀ (v0_ : Int32) (v1_ : St), w = .inl (v0_, v1_) → ∀ (H : Heap) (locs : List Loc) (ls : Array Slot), Wd g s v1_ H locs → lv_has ls 3 [(0, .ref (g.2.2 (101))), (1, .int (x1)), (2, .int (v0_))] → W p l e (rmm 5 131) s m args below meth c H locs 0 0 Q (F0 m 9 ls []) := fun v0_ v1_ e H locs ls Y hl => ih (v0_, v1_) Y hl (lpl hw e)
    have KX0 := fun (v : St) (e : w = .inr (.inl v)) => KX0 v (lpr hw e)
    have KX1 := fun (v0_ : Int32) (v1_ : St) (e : w = .inr (.inr (v0_, v1_))) => KX1 v0_ v1_ (lpr hw e)
    unfold f_X11_nestsNext_l9 at h
    refine lv_iload_n X.1 X.2.1 (dk T_X11_nestsNext 6 rfl) rfl (lv_at hl 2 rfl) ?_
    refine lv_aload_n X.1 X.2.1 (dk T_X11_nestsNext 7 rfl) rfl (lv_at hl 0 rfl) ?_
    refine gg X Y fl_X11_7 rfl rfl (dk T_X11_nestsNext 8 rfl) ?_
    refine lv_iconst (v := 1) X.1 X.2.1 (dk T_X11_nestsNext 9 rfl) ic_1 ?_
    obtain ⟨g2, h⟩ := gd h
    refine gil X Y rfl (inp g2) (dk T_X11_nestsNext 10 rfl) ?_
    refine lv_icmp_ge (tgt := 87) X.1 X.2.1 (dk T_X11_nestsNext 11 rfl) rfl (fun c3 => ?_) (fun c3 => ?_)
    · replace h := ipos c3 h
      exact KX0 z.2 (Option.some.inj h).symm _ _ _ Y (lv_sub hl [0, 1] rfl)
    · replace h := ineg c3 h
      refine lv_aload_n X.1 X.2.1 (dk T_X11_nestsNext 12 rfl) rfl (lv_at hl 0 rfl) ?_
      refine gg X Y fl_X11_7 rfl rfl (dk T_X11_nestsNext 13 rfl) ?_
      refine lv_sipush (v := 637) X.1 X.2.1 (dk T_X11_nestsNext 14 rfl) sp_637 ?_
      refine lv_iload_n X.1 X.2.1 (dk T_X11_nestsNext 15 rfl) rfl (lv_at hl 2 rfl) ?_
      refine lv_iadd X.1 X.2.1 (dk T_X11_nestsNext 16 rfl) ?_
      obtain ⟨g4, h⟩ := gd h
      refine gil X Y rfl (inp g4) (dk T_X11_nestsNext 17 rfl) ?_
      obtain ⟨q5, hq5, h⟩ := bs h
      refine gsI (rest := []) X Y (c_X11_bits (z.2 102 (637 + z.1).toNatClampNeg) z.2 hq5) cb_X11_191 hl.1 rfl rfl (Nat.le_of_ble_eq_true rfl) ⟨Nat.le_of_ble_eq_true rfl, Nat.le_of_ble_eq_true rfl⟩ (dk T_X11_nestsNext 18 rfl) (fun H locs Y => ?_)
      refine lv_iload_n X.1 X.2.1 (dk T_X11_nestsNext 19 rfl) rfl (lv_at hl 1 rfl) ?_
      refine lv_icmp_ne (tgt := 81) X.1 X.2.1 (dk T_X11_nestsNext 20 rfl) rfl (fun c6 => ?_) (fun c6 => ?_)
      · replace h := ineg c6 h
        exact w_X11_nestsNext_j81 X x1 z.1 z.2 KB KX0 KX1 Y (lv_sub hl [0, 1, 2] rfl) h
      · replace h := ipos c6 h
        refine lv_aload_n X.1 X.2.1 (dk T_X11_nestsNext 21 rfl) rfl (lv_at hl 0 rfl) ?_
        refine gg X Y fl_X11_7 rfl rfl (dk T_X11_nestsNext 22 rfl) ?_
        refine lv_sipush (v := 653) X.1 X.2.1 (dk T_X11_nestsNext 23 rfl) sp_653 ?_
        refine lv_iload_n X.1 X.2.1 (dk T_X11_nestsNext 24 rfl) rfl (lv_at hl 2 rfl) ?_
        refine lv_iadd X.1 X.2.1 (dk T_X11_nestsNext 25 rfl) ?_
        obtain ⟨g7, h⟩ := gd h
        refine gil X Y rfl (inp g7) (dk T_X11_nestsNext 26 rfl) ?_
        refine lv_if_le (tgt := 81) X.1 X.2.1 (dk T_X11_nestsNext 27 rfl) rfl (fun c8 => ?_) (fun c8 => ?_)
        · replace h := ipos c8 h
          exact w_X11_nestsNext_j81 X x1 z.1 z.2 KB KX0 KX1 Y (lv_sub hl [0, 1, 2] rfl) h
        · replace h := ineg c8 h
          refine lv_aload_n X.1 X.2.1 (dk T_X11_nestsNext 28 rfl) rfl (lv_at hl 0 rfl) ?_
          refine lv_iload_n X.1 X.2.1 (dk T_X11_nestsNext 29 rfl) rfl (lv_at hl 2 rfl) ?_
          obtain ⟨q9, hq9, h⟩ := bs h
          refine gvI (rest := []) X Y (c_X11_finds z.1 z.2 hq9) cb_X11_257 rfl hl.1 rfl rfl (Nat.le_of_ble_eq_true rfl) ⟨Nat.le_of_ble_eq_true rfl, Nat.le_of_ble_eq_true rfl⟩ (dk T_X11_nestsNext 30 rfl) (fun H locs Y => ?_)
          refine lv_if_eq (tgt := 81) X.1 X.2.1 (dk T_X11_nestsNext 31 rfl) rfl (fun c10 => ?_) (fun c10 => ?_)
          · replace h := ipos c10 h
            exact w_X11_nestsNext_j81 X x1 z.1 q9.2 KB KX0 KX1 Y (lv_sub hl [0, 1, 2] rfl) h
          · replace h := ineg c10 h
            exact KX1 z.1 q9.2 (Option.some.inj h).symm _ _ _ Y (lv_sub hl [0, 2] rfl)
def f_X11_nestsNext_l3 (z : Int32 × St) : Option ((Int32 × St) ⊕ ((St) ⊕ (Int32 × St))) :=
  if z.1 ≤ 0 then some (.inr (.inl z.2)) else (lp (f_X11_nestsNext_l9 z.1) FU (0, z.2)).bind fun q11 => Sum.elim (fun v12 => some (.inl (z.1 + (-1), v12))) (fun v13 => some (.inr (.inr (v13.1, v13.2)))) q11
set_option maxHeartbeats 4000000 in
set_option maxRecDepth 100000 in
theorem w_X11_nestsNext_l3 (X : Cx g RX11 cX11_nestsNext 3 (some .boolean) p s m args meth c) (σ : St) {r : (St) ⊕ (Int32 × St)} (KX0 : ∀ (v : St), r = (.inl v) → ∀ (H : Heap) (locs : List Loc) (ls : Array Slot), Wd g s v H locs → lv_has ls 3 [] → W p l e (rmm 5 131) s m args below meth c H locs 0 0 Q (F0 m 93 ls [])) (KX1 : ∀ (v0_ : Int32) (v1_ : St), r = (.inr (v0_, v1_)) → ∀ (H : Heap) (locs : List Loc) (ls : Array Slot), Wd g s v1_ H locs → lv_has ls 3 [(0, .ref (g.2.2 (101))), (2, .int (v0_))] → W p l e (rmm 5 131) s m args below meth c H locs 0 0 Q (F0 m 57 ls [])) : ∀ (n : Nat) (z : Int32 × St) {H : Heap} {locs : List Loc} {ls : Array Slot}, Wd g s z.2 H locs → lv_has ls 3 [(0, .ref (g.2.2 (101))), (1, .int (z.1))] → lp (f_X11_nestsNext_l3) n z = some r → W p l e (rmm 5 131) s m args below meth c H locs 0 0 Q (F0 m 3 ls []) := by
  intro n
  induction n with
  | zero => intro z H locs ls Y hl h; cases h
  | succ n ih =>
    intro z H locs ls Y hl h
    obtain ⟨w, h, hw⟩ := lps h
    have KB : ∀ (v0_ : Int32) (v1_ : St), w = .inl (v0_, v1_) → ∀ (H : Heap) (locs : List Loc) (ls : Array Slot), Wd g s v1_ H locs → lv_has ls 3 [(0, .ref (g.2.2 (101))), (1, .int (v0_))] → W p l e (rmm 5 131) s m args below meth c H locs 0 0 Q (F0 m 3 ls []) := fun v0_ v1_ e H locs ls Y hl => ih (v0_, v1_) Y hl (lpl hw e)
    have KX0 := fun (v : St) (e : w = .inr (.inl v)) => KX0 v (lpr hw e)
    have KX1 := fun (v0_ : Int32) (v1_ : St) (e : w = .inr (.inr (v0_, v1_))) => KX1 v0_ v1_ (lpr hw e)
    unfold f_X11_nestsNext_l3 at h
    refine lv_iload_n X.1 X.2.1 (dk T_X11_nestsNext 2 rfl) rfl (lv_at hl 1 rfl) ?_
    refine lv_if_le (tgt := 93) X.1 X.2.1 (dk T_X11_nestsNext 3 rfl) rfl (fun c1 => ?_) (fun c1 => ?_)
    · replace h := ipos c1 h
      exact KX0 z.2 (Option.some.inj h).symm _ _ _ Y (lv_sub hl [] rfl)
    · replace h := ineg c1 h
      refine lv_iconst (v := 0) X.1 X.2.1 (dk T_X11_nestsNext 4 rfl) ic_0 ?_
      refine lv_istore_n (lv' := [(2, .int (0)), (0, .ref (g.2.2 (101))), (1, .int (z.1))]) X.1 X.2.1 (dk T_X11_nestsNext 5 rfl) rfl hl (Nat.le_of_ble_eq_true rfl) rfl (fun ls hl => ?_)
      obtain ⟨q11, hq11, h⟩ := bs h
      refine w_X11_nestsNext_l9 X z.1 σ (fun v e H locs ls Y hl => ?_) (fun v0_ v1_ e H locs ls Y hl => ?_) FU (0, z.2) Y (lv_sub hl [1, 2, 0] rfl) hq11
      · obtain rfl := e
        replace h := sel h
        refine lv_iinc (v := z.1 + (-1)) (lv' := [(1, .int (z.1 + (-1))), (0, .ref (g.2.2 (101)))]) X.1 X.2.1 (dk T_X11_nestsNext 48 rfl) hl (k := 1) rfl (icx ic_m1) (Nat.le_of_ble_eq_true rfl) rfl (fun ls hl => ?_)
        refine lv_goto (tgt := 3) X.1 X.2.1 (dk T_X11_nestsNext 49 rfl) rfl ?_
        exact KB (z.1 + (-1)) v (Option.some.inj h).symm _ _ _ Y (lv_sub hl [1, 0] rfl)
      · obtain rfl := e
        replace h := ser h
        try dsimp only at h
        exact KX1 v0_ v1_ (Option.some.inj h).symm _ _ _ Y (lv_sub hl [0, 1] rfl)
def f_X11_nestsNext_0 (σ : St) : Option (Int32 × St) :=
  (lp (f_X11_nestsNext_l3) FU (16, σ)).bind fun q14 => Sum.elim (fun v15 => some (0, v15)) (fun v16 => (f_X11_places v16.1 (v16.2 101 25) (v16.2 101 22) (v16.2 101 23) (v16.2 101 24) v16.2).bind fun q17 => some (1, q17.2)) q14
set_option maxHeartbeats 4000000 in
set_option maxRecDepth 100000 in
theorem w_X11_nestsNext_0 (X : Cx g RX11 cX11_nestsNext 3 (some .boolean) p s m args meth c) (σ : St) {w : Int32 × St} (KR : ∀ (H : Heap) (locs : List Loc) (ls : Array Slot) (pc : Nat), Wd g s w.2 H locs → decode cX11_nestsNext pc = .ok (.ireturn, 1) → W p l e (rmm 5 131) s m args below meth c H locs 0 0 Q (F0 m pc ls [.int (w.1)])) {H : Heap} {locs : List Loc} {ls : Array Slot} (Y : Wd g s σ H locs) (hl : lv_has ls 3 [(0, .ref (g.2.2 (101)))]) (h : f_X11_nestsNext_0 σ = some w) : W p l e (rmm 5 131) s m args below meth c H locs 0 0 Q (F0 m 0 ls []) := by
  unfold f_X11_nestsNext_0 at h
  refine lv_bipush (v := 16) X.1 X.2.1 (dk T_X11_nestsNext 0 rfl) bp_16 ?_
  refine lv_istore_n (lv' := [(1, .int (16)), (0, .ref (g.2.2 (101)))]) X.1 X.2.1 (dk T_X11_nestsNext 1 rfl) rfl hl (Nat.le_of_ble_eq_true rfl) rfl (fun ls hl => ?_)
  obtain ⟨q14, hq14, h⟩ := bs h
  refine w_X11_nestsNext_l3 X σ (fun v e H locs ls Y hl => ?_) (fun v0_ v1_ e H locs ls Y hl => ?_) FU (16, σ) Y (lv_sub hl [1, 0] rfl) hq14
  · obtain rfl := e
    replace h := sel h
    refine lv_iconst (v := 0) X.1 X.2.1 (dk T_X11_nestsNext 50 rfl) ic_0 ?_
    obtain rfl := Option.some.inj h
    exact KR _ _ _ _ Y (dk T_X11_nestsNext 51 rfl)
  · obtain rfl := e
    replace h := ser h
    try dsimp only at h
    refine lv_aload_n X.1 X.2.1 (dk T_X11_nestsNext 32 rfl) rfl (lv_at hl 0 rfl) ?_
    refine lv_iload_n X.1 X.2.1 (dk T_X11_nestsNext 33 rfl) rfl (lv_at hl 1 rfl) ?_
    refine lv_aload_n X.1 X.2.1 (dk T_X11_nestsNext 34 rfl) rfl (lv_at hl 0 rfl) ?_
    refine gg X Y fl_X11_245 rfl rfl (dk T_X11_nestsNext 35 rfl) ?_
    refine lv_aload_n X.1 X.2.1 (dk T_X11_nestsNext 36 rfl) rfl (lv_at hl 0 rfl) ?_
    refine gg X Y fl_X11_248 rfl rfl (dk T_X11_nestsNext 37 rfl) ?_
    refine lv_aload_n X.1 X.2.1 (dk T_X11_nestsNext 38 rfl) rfl (lv_at hl 0 rfl) ?_
    refine gg X Y fl_X11_251 rfl rfl (dk T_X11_nestsNext 39 rfl) ?_
    refine lv_aload_n X.1 X.2.1 (dk T_X11_nestsNext 40 rfl) rfl (lv_at hl 0 rfl) ?_
    refine gg X Y fl_X11_254 rfl rfl (dk T_X11_nestsNext 41 rfl) ?_
    obtain ⟨q17, hq17, h⟩ := bs h
    refine gvI (rest := []) X Y (c_X11_places v0_ (v1_ 101 25) (v1_ 101 22) (v1_ 101 23) (v1_ 101 24) v1_ hq17) cb_X11_221 rfl hl.1 rfl rfl (Nat.le_of_ble_eq_true rfl) ⟨Nat.le_of_ble_eq_true rfl, Nat.le_of_ble_eq_true rfl⟩ (dk T_X11_nestsNext 42 rfl) (fun H locs Y => ?_)
    refine lv_pop X.1 X.2.1 (dk T_X11_nestsNext 43 rfl) rfl ?_
    refine lv_iconst (v := 1) X.1 X.2.1 (dk T_X11_nestsNext 44 rfl) ic_1 ?_
    obtain rfl := Option.some.inj h
    exact KR _ _ _ _ Y (dk T_X11_nestsNext 45 rfl)
def f_X11_nestsNext (σ : St) : Option (Int32 × St) := bzW (f_X11_nestsNext_0 σ)
set_option maxHeartbeats 4000000 in
set_option maxRecDepth 100000 in
theorem c_X11_nestsNext {l : Launch} {g : Geo} (σ : St) {w : Int32 × St} (h : f_X11_nestsNext σ = some w) : CtI l yX11_nestsNext cX11_nestsNext 3 (some .boolean) (rmm 5 131) g [.ref (g.2.2 (101))] σ w.1 w.2 := by
  obtain ⟨h, hz⟩ := bzW_s h
  exact enI .boolean (by decide) rfl (bz_n hz) (Nat.le_of_ble_eq_true rfl) (fun p e s m args below meth c Q X Y ls hl KR => w_X11_nestsNext_0 X σ KR Y hl h)
def I_X11_nestAll : List (Nat × Instr × Nat) := [(0, .aload_n 0, 1), (1, .iconst 0, 1), (2, .putfield 71, 3), (5, .aload_n 0, 1), (6, .invokevirtual 95, 3), (9, .iconst 0, 1), (10, .istore_n 1, 1), (11, .aload_n 0, 1), (12, .invokevirtual 260, 3), (15, .ifCond .eq 9, 3), (18, .iinc 1 1, 3), (21, .goto (-10), 3), (24, .iload_n 1, 1), (25, .ireturn, 1)]
set_option maxRecDepth 100000 in
theorem T_X11_nestAll : ∀ q ∈ I_X11_nestAll, decode cX11_nestAll q.1 = .ok (q.2.1, q.2.2) := by decide +kernel
def f_X11_nestAll_l11 (z : Int32 × St) : Option ((Int32 × St) ⊕ (Int32 × St)) :=
  (f_X11_nestsNext z.2).bind fun q2 => if q2.1 = 0 then some (.inr (z.1, q2.2)) else some (.inl (z.1 + 1, q2.2))
set_option maxHeartbeats 4000000 in
set_option maxRecDepth 100000 in
theorem w_X11_nestAll_l11 (X : Cx g RX11 cX11_nestAll 2 (some .int) p s m args meth c) (σ : St) {r : Int32 × St} (KX0 : ∀ (v0_ : Int32) (v1_ : St), r = (v0_, v1_) → ∀ (H : Heap) (locs : List Loc) (ls : Array Slot), Wd g s v1_ H locs → lv_has ls 2 [(1, .int (v0_))] → W p l e (rmm 6 153) s m args below meth c H locs 0 0 Q (F0 m 24 ls [])) : ∀ (n : Nat) (z : Int32 × St) {H : Heap} {locs : List Loc} {ls : Array Slot}, Wd g s z.2 H locs → lv_has ls 2 [(0, .ref (g.2.2 (101))), (1, .int (z.1))] → lp (f_X11_nestAll_l11) n z = some r → W p l e (rmm 6 153) s m args below meth c H locs 0 0 Q (F0 m 11 ls []) := by
  intro n
  induction n with
  | zero => intro z H locs ls Y hl h; cases h
  | succ n ih =>
    intro z H locs ls Y hl h
    obtain ⟨w, h, hw⟩ := lps h
    have KB : ∀ (v0_ : Int32) (v1_ : St), w = .inl (v0_, v1_) → ∀ (H : Heap) (locs : List Loc) (ls : Array Slot), Wd g s v1_ H locs → lv_has ls 2 [(0, .ref (g.2.2 (101))), (1, .int (v0_))] → W p l e (rmm 6 153) s m args below meth c H locs 0 0 Q (F0 m 11 ls []) := fun v0_ v1_ e H locs ls Y hl => ih (v0_, v1_) Y hl (lpl hw e)
    have KX0 := fun (v0_ : Int32) (v1_ : St) (e : w = .inr (v0_, v1_)) => KX0 v0_ v1_ (lpr hw e)
    unfold f_X11_nestAll_l11 at h
    refine lv_aload_n X.1 X.2.1 (dk T_X11_nestAll 7 rfl) rfl (lv_at hl 0 rfl) ?_
    obtain ⟨q2, hq2, h⟩ := bs h
    refine gvI (rest := []) X Y (c_X11_nestsNext z.2 hq2) cb_X11_260 rfl hl.1 rfl rfl (Nat.le_of_ble_eq_true rfl) ⟨Nat.le_of_ble_eq_true rfl, Nat.le_of_ble_eq_true rfl⟩ (dk T_X11_nestAll 8 rfl) (fun H locs Y => ?_)
    refine lv_if_eq (tgt := 24) X.1 X.2.1 (dk T_X11_nestAll 9 rfl) rfl (fun c3 => ?_) (fun c3 => ?_)
    · replace h := ipos c3 h
      exact KX0 z.1 q2.2 (Option.some.inj h).symm _ _ _ Y (lv_sub hl [1] rfl)
    · replace h := ineg c3 h
      refine lv_iinc (v := z.1 + 1) (lv' := [(1, .int (z.1 + 1)), (0, .ref (g.2.2 (101)))]) X.1 X.2.1 (dk T_X11_nestAll 10 rfl) hl (k := 1) rfl (icx ic_1) (Nat.le_of_ble_eq_true rfl) rfl (fun ls hl => ?_)
      refine lv_goto (tgt := 11) X.1 X.2.1 (dk T_X11_nestAll 11 rfl) rfl ?_
      exact KB (z.1 + 1) q2.2 (Option.some.inj h).symm _ _ _ Y (lv_sub hl [1, 0] rfl)
def f_X11_nestAll_0 (σ : St) : Option (Int32 × St) :=
  (f_X11_changes (up σ 101 0 0)).bind fun q1 => (lp (f_X11_nestAll_l11) FU (0, q1)).bind fun q4 => some (q4.1, q4.2)
set_option maxHeartbeats 4000000 in
set_option maxRecDepth 100000 in
theorem w_X11_nestAll_0 (X : Cx g RX11 cX11_nestAll 2 (some .int) p s m args meth c) (σ : St) {w : Int32 × St} (KR : ∀ (H : Heap) (locs : List Loc) (ls : Array Slot) (pc : Nat), Wd g s w.2 H locs → decode cX11_nestAll pc = .ok (.ireturn, 1) → W p l e (rmm 6 153) s m args below meth c H locs 0 0 Q (F0 m pc ls [.int (w.1)])) {H : Heap} {locs : List Loc} {ls : Array Slot} (Y : Wd g s σ H locs) (hl : lv_has ls 2 [(0, .ref (g.2.2 (101)))]) (h : f_X11_nestAll_0 σ = some w) : W p l e (rmm 6 153) s m args below meth c H locs 0 0 Q (F0 m 0 ls []) := by
  unfold f_X11_nestAll_0 at h
  refine lv_aload_n X.1 X.2.1 (dk T_X11_nestAll 0 rfl) rfl (lv_at hl 0 rfl) ?_
  refine lv_iconst (v := 0) X.1 X.2.1 (dk T_X11_nestAll 1 rfl) ic_0 ?_
  refine gp X Y fp_X11_71 rfl (nar_int _) (dk T_X11_nestAll 2 rfl) (fun H locs Y => ?_)
  refine lv_aload_n X.1 X.2.1 (dk T_X11_nestAll 3 rfl) rfl (lv_at hl 0 rfl) ?_
  obtain ⟨q1, hq1, h⟩ := bs h
  refine gvV (rest := []) X Y (c_X11_changes (up σ 101 0 0) hq1) cb_X11_95 rfl hl.1 rfl rfl (Nat.le_of_ble_eq_true rfl) ⟨Nat.le_of_ble_eq_true rfl, Nat.le_of_ble_eq_true rfl⟩ (dk T_X11_nestAll 4 rfl) (fun H locs Y => ?_)
  refine lv_iconst (v := 0) X.1 X.2.1 (dk T_X11_nestAll 5 rfl) ic_0 ?_
  refine lv_istore_n (lv' := [(1, .int (0)), (0, .ref (g.2.2 (101)))]) X.1 X.2.1 (dk T_X11_nestAll 6 rfl) rfl hl (Nat.le_of_ble_eq_true rfl) rfl (fun ls hl => ?_)
  obtain ⟨q4, hq4, h⟩ := bs h
  refine w_X11_nestAll_l11 X σ (fun v0_ v1_ e H locs ls Y hl => ?_) FU (0, q1) Y (lv_sub hl [1, 0] rfl) hq4
  · obtain ⟨rfl, rfl⟩ : v0_ = q4.1 ∧ v1_ = q4.2 := ⟨by rw [e], by rw [e]⟩
    refine lv_iload_n X.1 X.2.1 (dk T_X11_nestAll 12 rfl) rfl (lv_at hl 0 rfl) ?_
    obtain rfl := Option.some.inj h
    exact KR _ _ _ _ Y (dk T_X11_nestAll 13 rfl)
def f_X11_nestAll (σ : St) : Option (Int32 × St) := f_X11_nestAll_0 σ
set_option maxHeartbeats 4000000 in
set_option maxRecDepth 100000 in
theorem c_X11_nestAll {l : Launch} {g : Geo} (σ : St) {w : Int32 × St} (h : f_X11_nestAll σ = some w) : CtI l yX11_nestAll cX11_nestAll 2 (some .int) (rmm 6 153) g [.ref (g.2.2 (101))] σ w.1 w.2 := enI .int (by decide) rfl rfl (Nat.le_of_ble_eq_true rfl) (fun p e s m args below meth c Q X Y ls hl KR => w_X11_nestAll_0 X σ KR Y hl h)
def I_X11_bounds : List (Nat × Instr × Nat) := [(0, .aload_n 0, 1), (1, .getfield 7, 3), (4, .iconst 3, 1), (5, .iload_n 1, 1), (6, .iadd, 1), (7, .iaload, 1), (8, .istore_n 3, 1), (9, .aload_n 0, 1), (10, .bipush 10, 2), (12, .putfield 264, 3), (15, .aload_n 0, 1), (16, .iconst (-1), 1), (17, .putfield 267, 3), (20, .aload_n 0, 1), (21, .bipush 10, 2), (23, .putfield 270, 3), (26, .aload_n 0, 1), (27, .iconst (-1), 1), (28, .putfield 273, 3), (31, .aload_n 0, 1), (32, .iconst 0, 1), (33, .putfield 276, 3), (36, .iconst 0, 1), (37, .istore 4, 2), (39, .iload 4, 2), (41, .aload_n 0, 1), (42, .iload_n 1, 1), (43, .invokevirtual 149, 3), (46, .if_icmp .ge 134, 3), (49, .aload_n 0, 1), (50, .getfield 40, 3), (53, .iload 4, 2), (55, .iaload, 1), (56, .iload_n 2, 1), (57, .if_icmp .ne 117, 3), (60, .aload_n 0, 1), (61, .iload 4, 2), (63, .iload_n 3, 1), (64, .irem, 1), (65, .aload_n 0, 1), (66, .getfield 264, 3), (69, .if_icmp .ge 10, 3), (72, .iload 4, 2), (74, .iload_n 3, 1), (75, .irem, 1), (76, .goto 7, 3), (79, .aload_n 0, 1), (80, .getfield 264, 3), (83, .putfield 264, 3), (86, .aload_n 0, 1), (87, .iload 4, 2), (89, .iload_n 3, 1), (90, .irem, 1), (91, .aload_n 0, 1), (92, .getfield 267, 3), (95, .if_icmp .le 10, 3), (98, .iload 4, 2), (100, .iload_n 3, 1), (101, .irem, 1), (102, .goto 7, 3), (105, .aload_n 0, 1), (106, .getfield 267, 3), (109, .putfield 267, 3), (112, .aload_n 0, 1), (113, .iload 4, 2), (115, .iload_n 3, 1), (116, .idiv, 1), (117, .aload_n 0, 1), (118, .getfield 270, 3), (121, .if_icmp .ge 10, 3), (124, .iload 4, 2), (126, .iload_n 3, 1), (127, .idiv, 1), (128, .goto 7, 3), (131, .aload_n 0, 1), (132, .getfield 270, 3), (135, .putfield 270, 3), (138, .aload_n 0, 1), (139, .iload 4, 2), (141, .iload_n 3, 1), (142, .idiv, 1), (143, .aload_n 0, 1), (144, .getfield 273, 3), (147, .if_icmp .le 10, 3), (150, .iload 4, 2), (152, .iload_n 3, 1), (153, .idiv, 1), (154, .goto 7, 3), (157, .aload_n 0, 1), (158, .getfield 273, 3), (161, .putfield 273, 3), (164, .aload_n 0, 1), (165, .dup, 1), (166, .getfield 276, 3), (169, .iconst 1, 1), (170, .iadd, 1), (171, .putfield 276, 3), (174, .iinc 4 1, 3), (177, .goto (-138), 3), (180, .return_, 1)]
set_option maxRecDepth 100000 in
theorem T_X11_bounds : ∀ q ∈ I_X11_bounds, decode cX11_bounds q.1 = .ok (q.2.1, q.2.2) := by decide +kernel
def f_X11_bounds_j174 (x1 : Int32) (x2 : Int32) (x3 : Int32) (x4 : Int32) (σ : St) : Option ((Int32 × St) ⊕ (St)) :=
  some (.inl (x4 + 1, σ))
set_option maxHeartbeats 4000000 in
set_option maxRecDepth 100000 in
theorem w_X11_bounds_j174 (X : Cx g RX11 cX11_bounds 5 none p s m args meth c) (x1 : Int32) (x2 : Int32) (x3 : Int32) (x4 : Int32) (σ : St) {w : (Int32 × St) ⊕ (St)} (KB : ∀ (v0_ : Int32) (v1_ : St), w = .inl (v0_, v1_) → ∀ (H : Heap) (locs : List Loc) (ls : Array Slot), Wd g s v1_ H locs → lv_has ls 5 [(0, .ref (g.2.2 (101))), (1, .int (x1)), (2, .int (x2)), (3, .int (x3)), (4, .int (v0_))] → W p l e (rmm 1 21) s m args below meth c H locs 0 0 Q (F0 m 39 ls [])) (KX0 : ∀ (v : St), w = .inr v → ∀ (H : Heap) (locs : List Loc) (ls : Array Slot), Wd g s v H locs → lv_has ls 5 [] → W p l e (rmm 1 21) s m args below meth c H locs 0 0 Q (F0 m 180 ls [])) {H : Heap} {locs : List Loc} {ls : Array Slot} (Y : Wd g s σ H locs) (hl : lv_has ls 5 [(0, .ref (g.2.2 (101))), (1, .int (x1)), (2, .int (x2)), (3, .int (x3)), (4, .int (x4))]) (h : f_X11_bounds_j174 x1 x2 x3 x4 σ = some w) : W p l e (rmm 1 21) s m args below meth c H locs 0 0 Q (F0 m 174 ls []) := by
  unfold f_X11_bounds_j174 at h
  refine lv_iinc (v := x4 + 1) (lv' := [(4, .int (x4 + 1)), (0, .ref (g.2.2 (101))), (1, .int (x1)), (2, .int (x2)), (3, .int (x3))]) X.1 X.2.1 (dk T_X11_bounds 97 rfl) hl (k := 4) rfl (icx ic_1) (Nat.le_of_ble_eq_true rfl) rfl (fun ls hl => ?_)
  refine lv_goto (tgt := 39) X.1 X.2.1 (dk T_X11_bounds 98 rfl) rfl ?_
  exact KB (x4 + 1) σ (Option.some.inj h).symm _ _ _ Y (lv_sub hl [1, 2, 3, 4, 0] rfl)
def f_X11_bounds_j161 (x1 : Int32) (x2 : Int32) (x3 : Int32) (x4 : Int32) (s0 : Int32) (σ : St) : Option ((Int32 × St) ⊕ (St)) :=
  f_X11_bounds_j174 x1 x2 x3 x4 (up (up σ 101 29 s0) 101 30 ((up σ 101 29 s0 101 30) + 1))
set_option maxHeartbeats 4000000 in
set_option maxRecDepth 100000 in
theorem w_X11_bounds_j161 (X : Cx g RX11 cX11_bounds 5 none p s m args meth c) (x1 : Int32) (x2 : Int32) (x3 : Int32) (x4 : Int32) (s0 : Int32) (σ : St) {w : (Int32 × St) ⊕ (St)} (KB : ∀ (v0_ : Int32) (v1_ : St), w = .inl (v0_, v1_) → ∀ (H : Heap) (locs : List Loc) (ls : Array Slot), Wd g s v1_ H locs → lv_has ls 5 [(0, .ref (g.2.2 (101))), (1, .int (x1)), (2, .int (x2)), (3, .int (x3)), (4, .int (v0_))] → W p l e (rmm 1 21) s m args below meth c H locs 0 0 Q (F0 m 39 ls [])) (KX0 : ∀ (v : St), w = .inr v → ∀ (H : Heap) (locs : List Loc) (ls : Array Slot), Wd g s v H locs → lv_has ls 5 [] → W p l e (rmm 1 21) s m args below meth c H locs 0 0 Q (F0 m 180 ls [])) {H : Heap} {locs : List Loc} {ls : Array Slot} (Y : Wd g s σ H locs) (hl : lv_has ls 5 [(0, .ref (g.2.2 (101))), (1, .int (x1)), (2, .int (x2)), (3, .int (x3)), (4, .int (x4))]) (h : f_X11_bounds_j161 x1 x2 x3 x4 s0 σ = some w) : W p l e (rmm 1 21) s m args below meth c H locs 0 0 Q (F0 m 161 ls [.int (s0), .ref (g.2.2 (101))]) := by
  unfold f_X11_bounds_j161 at h
  refine gp X Y fp_X11_273 rfl (nar_int _) (dk T_X11_bounds 90 rfl) (fun H locs Y => ?_)
  refine lv_aload_n X.1 X.2.1 (dk T_X11_bounds 91 rfl) rfl (lv_at hl 0 rfl) ?_
  refine lv_dup X.1 X.2.1 (dk T_X11_bounds 92 rfl) rfl ?_
  refine gg X Y fl_X11_276 rfl rfl (dk T_X11_bounds 93 rfl) ?_
  refine lv_iconst (v := 1) X.1 X.2.1 (dk T_X11_bounds 94 rfl) ic_1 ?_
  refine lv_iadd X.1 X.2.1 (dk T_X11_bounds 95 rfl) ?_
  refine gp X Y fp_X11_276 rfl (nar_int _) (dk T_X11_bounds 96 rfl) (fun H locs Y => ?_)
  exact w_X11_bounds_j174 X x1 x2 x3 x4 (up (up σ 101 29 s0) 101 30 ((up σ 101 29 s0 101 30) + 1)) KB KX0 Y (lv_sub hl [0, 1, 2, 3, 4] rfl) h
def f_X11_bounds_j135 (x1 : Int32) (x2 : Int32) (x3 : Int32) (x4 : Int32) (s0 : Int32) (σ : St) : Option ((Int32 × St) ⊕ (St)) :=
  chk (nz x3) (if (x4 / x3) ≤ (up σ 101 28 s0 101 29) then f_X11_bounds_j161 x1 x2 x3 x4 (up σ 101 28 s0 101 29) (up σ 101 28 s0) else chk (nz x3) (f_X11_bounds_j161 x1 x2 x3 x4 (x4 / x3) (up σ 101 28 s0)))
set_option maxHeartbeats 4000000 in
set_option maxRecDepth 100000 in
theorem w_X11_bounds_j135 (X : Cx g RX11 cX11_bounds 5 none p s m args meth c) (x1 : Int32) (x2 : Int32) (x3 : Int32) (x4 : Int32) (s0 : Int32) (σ : St) {w : (Int32 × St) ⊕ (St)} (KB : ∀ (v0_ : Int32) (v1_ : St), w = .inl (v0_, v1_) → ∀ (H : Heap) (locs : List Loc) (ls : Array Slot), Wd g s v1_ H locs → lv_has ls 5 [(0, .ref (g.2.2 (101))), (1, .int (x1)), (2, .int (x2)), (3, .int (x3)), (4, .int (v0_))] → W p l e (rmm 1 21) s m args below meth c H locs 0 0 Q (F0 m 39 ls [])) (KX0 : ∀ (v : St), w = .inr v → ∀ (H : Heap) (locs : List Loc) (ls : Array Slot), Wd g s v H locs → lv_has ls 5 [] → W p l e (rmm 1 21) s m args below meth c H locs 0 0 Q (F0 m 180 ls [])) {H : Heap} {locs : List Loc} {ls : Array Slot} (Y : Wd g s σ H locs) (hl : lv_has ls 5 [(0, .ref (g.2.2 (101))), (1, .int (x1)), (2, .int (x2)), (3, .int (x3)), (4, .int (x4))]) (h : f_X11_bounds_j135 x1 x2 x3 x4 s0 σ = some w) : W p l e (rmm 1 21) s m args below meth c H locs 0 0 Q (F0 m 135 ls [.int (s0), .ref (g.2.2 (101))]) := by
  unfold f_X11_bounds_j135 at h
  refine gp X Y fp_X11_270 rfl (nar_int _) (dk T_X11_bounds 76 rfl) (fun H locs Y => ?_)
  refine lv_aload_n X.1 X.2.1 (dk T_X11_bounds 77 rfl) rfl (lv_at hl 0 rfl) ?_
  refine lv_iload X.1 X.2.1 (dk T_X11_bounds 78 rfl) (lv_at hl 4 rfl) ?_
  refine lv_iload_n X.1 X.2.1 (dk T_X11_bounds 79 rfl) rfl (lv_at hl 3 rfl) ?_
  obtain ⟨g12, h⟩ := gd h
  refine lv_idiv X.1 X.2.1 (dk T_X11_bounds 80 rfl) (nzp g12) ?_
  refine lv_aload_n X.1 X.2.1 (dk T_X11_bounds 81 rfl) rfl (lv_at hl 0 rfl) ?_
  refine gg X Y fl_X11_273 rfl rfl (dk T_X11_bounds 82 rfl) ?_
  refine lv_icmp_le (tgt := 157) X.1 X.2.1 (dk T_X11_bounds 83 rfl) rfl (fun c13 => ?_) (fun c13 => ?_)
  · replace h := ipos c13 h
    refine lv_aload_n X.1 X.2.1 (dk T_X11_bounds 88 rfl) rfl (lv_at hl 0 rfl) ?_
    refine gg X Y fl_X11_273 rfl rfl (dk T_X11_bounds 89 rfl) ?_
    exact w_X11_bounds_j161 X x1 x2 x3 x4 (up σ 101 28 s0 101 29) (up σ 101 28 s0) KB KX0 Y (lv_sub hl [0, 1, 2, 3, 4] rfl) h
  · replace h := ineg c13 h
    refine lv_iload X.1 X.2.1 (dk T_X11_bounds 84 rfl) (lv_at hl 4 rfl) ?_
    refine lv_iload_n X.1 X.2.1 (dk T_X11_bounds 85 rfl) rfl (lv_at hl 3 rfl) ?_
    obtain ⟨g14, h⟩ := gd h
    refine lv_idiv X.1 X.2.1 (dk T_X11_bounds 86 rfl) (nzp g14) ?_
    refine lv_goto (tgt := 161) X.1 X.2.1 (dk T_X11_bounds 87 rfl) rfl ?_
    exact w_X11_bounds_j161 X x1 x2 x3 x4 (x4 / x3) (up σ 101 28 s0) KB KX0 Y (lv_sub hl [0, 1, 2, 3, 4] rfl) h
def f_X11_bounds_j109 (x1 : Int32) (x2 : Int32) (x3 : Int32) (x4 : Int32) (s0 : Int32) (σ : St) : Option ((Int32 × St) ⊕ (St)) :=
  chk (nz x3) (if (up σ 101 27 s0 101 28) ≤ (x4 / x3) then f_X11_bounds_j135 x1 x2 x3 x4 (up σ 101 27 s0 101 28) (up σ 101 27 s0) else chk (nz x3) (f_X11_bounds_j135 x1 x2 x3 x4 (x4 / x3) (up σ 101 27 s0)))
set_option maxHeartbeats 4000000 in
set_option maxRecDepth 100000 in
theorem w_X11_bounds_j109 (X : Cx g RX11 cX11_bounds 5 none p s m args meth c) (x1 : Int32) (x2 : Int32) (x3 : Int32) (x4 : Int32) (s0 : Int32) (σ : St) {w : (Int32 × St) ⊕ (St)} (KB : ∀ (v0_ : Int32) (v1_ : St), w = .inl (v0_, v1_) → ∀ (H : Heap) (locs : List Loc) (ls : Array Slot), Wd g s v1_ H locs → lv_has ls 5 [(0, .ref (g.2.2 (101))), (1, .int (x1)), (2, .int (x2)), (3, .int (x3)), (4, .int (v0_))] → W p l e (rmm 1 21) s m args below meth c H locs 0 0 Q (F0 m 39 ls [])) (KX0 : ∀ (v : St), w = .inr v → ∀ (H : Heap) (locs : List Loc) (ls : Array Slot), Wd g s v H locs → lv_has ls 5 [] → W p l e (rmm 1 21) s m args below meth c H locs 0 0 Q (F0 m 180 ls [])) {H : Heap} {locs : List Loc} {ls : Array Slot} (Y : Wd g s σ H locs) (hl : lv_has ls 5 [(0, .ref (g.2.2 (101))), (1, .int (x1)), (2, .int (x2)), (3, .int (x3)), (4, .int (x4))]) (h : f_X11_bounds_j109 x1 x2 x3 x4 s0 σ = some w) : W p l e (rmm 1 21) s m args below meth c H locs 0 0 Q (F0 m 109 ls [.int (s0), .ref (g.2.2 (101))]) := by
  unfold f_X11_bounds_j109 at h
  refine gp X Y fp_X11_267 rfl (nar_int _) (dk T_X11_bounds 62 rfl) (fun H locs Y => ?_)
  refine lv_aload_n X.1 X.2.1 (dk T_X11_bounds 63 rfl) rfl (lv_at hl 0 rfl) ?_
  refine lv_iload X.1 X.2.1 (dk T_X11_bounds 64 rfl) (lv_at hl 4 rfl) ?_
  refine lv_iload_n X.1 X.2.1 (dk T_X11_bounds 65 rfl) rfl (lv_at hl 3 rfl) ?_
  obtain ⟨g10, h⟩ := gd h
  refine lv_idiv X.1 X.2.1 (dk T_X11_bounds 66 rfl) (nzp g10) ?_
  refine lv_aload_n X.1 X.2.1 (dk T_X11_bounds 67 rfl) rfl (lv_at hl 0 rfl) ?_
  refine gg X Y fl_X11_270 rfl rfl (dk T_X11_bounds 68 rfl) ?_
  refine lv_icmp_ge (tgt := 131) X.1 X.2.1 (dk T_X11_bounds 69 rfl) rfl (fun c11 => ?_) (fun c11 => ?_)
  · replace h := ipos c11 h
    refine lv_aload_n X.1 X.2.1 (dk T_X11_bounds 74 rfl) rfl (lv_at hl 0 rfl) ?_
    refine gg X Y fl_X11_270 rfl rfl (dk T_X11_bounds 75 rfl) ?_
    exact w_X11_bounds_j135 X x1 x2 x3 x4 (up σ 101 27 s0 101 28) (up σ 101 27 s0) KB KX0 Y (lv_sub hl [0, 1, 2, 3, 4] rfl) h
  · replace h := ineg c11 h
    refine lv_iload X.1 X.2.1 (dk T_X11_bounds 70 rfl) (lv_at hl 4 rfl) ?_
    refine lv_iload_n X.1 X.2.1 (dk T_X11_bounds 71 rfl) rfl (lv_at hl 3 rfl) ?_
    obtain ⟨g15, h⟩ := gd h
    refine lv_idiv X.1 X.2.1 (dk T_X11_bounds 72 rfl) (nzp g15) ?_
    refine lv_goto (tgt := 135) X.1 X.2.1 (dk T_X11_bounds 73 rfl) rfl ?_
    exact w_X11_bounds_j135 X x1 x2 x3 x4 (x4 / x3) (up σ 101 27 s0) KB KX0 Y (lv_sub hl [0, 1, 2, 3, 4] rfl) h
def f_X11_bounds_j83 (x1 : Int32) (x2 : Int32) (x3 : Int32) (x4 : Int32) (s0 : Int32) (σ : St) : Option ((Int32 × St) ⊕ (St)) :=
  chk (nz x3) (if (x4 - x4 / x3 * x3) ≤ (up σ 101 26 s0 101 27) then f_X11_bounds_j109 x1 x2 x3 x4 (up σ 101 26 s0 101 27) (up σ 101 26 s0) else chk (nz x3) (f_X11_bounds_j109 x1 x2 x3 x4 (x4 - x4 / x3 * x3) (up σ 101 26 s0)))
set_option maxHeartbeats 4000000 in
set_option maxRecDepth 100000 in
theorem w_X11_bounds_j83 (X : Cx g RX11 cX11_bounds 5 none p s m args meth c) (x1 : Int32) (x2 : Int32) (x3 : Int32) (x4 : Int32) (s0 : Int32) (σ : St) {w : (Int32 × St) ⊕ (St)} (KB : ∀ (v0_ : Int32) (v1_ : St), w = .inl (v0_, v1_) → ∀ (H : Heap) (locs : List Loc) (ls : Array Slot), Wd g s v1_ H locs → lv_has ls 5 [(0, .ref (g.2.2 (101))), (1, .int (x1)), (2, .int (x2)), (3, .int (x3)), (4, .int (v0_))] → W p l e (rmm 1 21) s m args below meth c H locs 0 0 Q (F0 m 39 ls [])) (KX0 : ∀ (v : St), w = .inr v → ∀ (H : Heap) (locs : List Loc) (ls : Array Slot), Wd g s v H locs → lv_has ls 5 [] → W p l e (rmm 1 21) s m args below meth c H locs 0 0 Q (F0 m 180 ls [])) {H : Heap} {locs : List Loc} {ls : Array Slot} (Y : Wd g s σ H locs) (hl : lv_has ls 5 [(0, .ref (g.2.2 (101))), (1, .int (x1)), (2, .int (x2)), (3, .int (x3)), (4, .int (x4))]) (h : f_X11_bounds_j83 x1 x2 x3 x4 s0 σ = some w) : W p l e (rmm 1 21) s m args below meth c H locs 0 0 Q (F0 m 83 ls [.int (s0), .ref (g.2.2 (101))]) := by
  unfold f_X11_bounds_j83 at h
  refine gp X Y fp_X11_264 rfl (nar_int _) (dk T_X11_bounds 48 rfl) (fun H locs Y => ?_)
  refine lv_aload_n X.1 X.2.1 (dk T_X11_bounds 49 rfl) rfl (lv_at hl 0 rfl) ?_
  refine lv_iload X.1 X.2.1 (dk T_X11_bounds 50 rfl) (lv_at hl 4 rfl) ?_
  refine lv_iload_n X.1 X.2.1 (dk T_X11_bounds 51 rfl) rfl (lv_at hl 3 rfl) ?_
  obtain ⟨g8, h⟩ := gd h
  refine lv_irem X.1 X.2.1 (dk T_X11_bounds 52 rfl) (nzp g8) ?_
  refine lv_aload_n X.1 X.2.1 (dk T_X11_bounds 53 rfl) rfl (lv_at hl 0 rfl) ?_
  refine gg X Y fl_X11_267 rfl rfl (dk T_X11_bounds 54 rfl) ?_
  refine lv_icmp_le (tgt := 105) X.1 X.2.1 (dk T_X11_bounds 55 rfl) rfl (fun c9 => ?_) (fun c9 => ?_)
  · replace h := ipos c9 h
    refine lv_aload_n X.1 X.2.1 (dk T_X11_bounds 60 rfl) rfl (lv_at hl 0 rfl) ?_
    refine gg X Y fl_X11_267 rfl rfl (dk T_X11_bounds 61 rfl) ?_
    exact w_X11_bounds_j109 X x1 x2 x3 x4 (up σ 101 26 s0 101 27) (up σ 101 26 s0) KB KX0 Y (lv_sub hl [0, 1, 2, 3, 4] rfl) h
  · replace h := ineg c9 h
    refine lv_iload X.1 X.2.1 (dk T_X11_bounds 56 rfl) (lv_at hl 4 rfl) ?_
    refine lv_iload_n X.1 X.2.1 (dk T_X11_bounds 57 rfl) rfl (lv_at hl 3 rfl) ?_
    obtain ⟨g16, h⟩ := gd h
    refine lv_irem X.1 X.2.1 (dk T_X11_bounds 58 rfl) (nzp g16) ?_
    refine lv_goto (tgt := 109) X.1 X.2.1 (dk T_X11_bounds 59 rfl) rfl ?_
    exact w_X11_bounds_j109 X x1 x2 x3 x4 (x4 - x4 / x3 * x3) (up σ 101 26 s0) KB KX0 Y (lv_sub hl [0, 1, 2, 3, 4] rfl) h
def f_X11_bounds_l39 (x1 : Int32) (x2 : Int32) (x3 : Int32) (z : Int32 × St) : Option ((Int32 × St) ⊕ (St)) :=
  (f_X11_cells x1 z.2).bind fun q2 => if q2 ≤ z.1 then some (.inr z.2) else chk (inb z.1 100) (if (z.2 112 z.1.toNatClampNeg) = x2 then chk (nz x3) (if (z.2 101 26) ≤ (z.1 - z.1 / x3 * x3) then f_X11_bounds_j83 x1 x2 x3 z.1 (z.2 101 26) z.2 else chk (nz x3) (f_X11_bounds_j83 x1 x2 x3 z.1 (z.1 - z.1 / x3 * x3) z.2)) else f_X11_bounds_j174 x1 x2 x3 z.1 z.2)
set_option maxHeartbeats 4000000 in
set_option maxRecDepth 100000 in
theorem w_X11_bounds_l39 (X : Cx g RX11 cX11_bounds 5 none p s m args meth c) (x1 : Int32) (x2 : Int32) (x3 : Int32) (σ : St) {r : St} (KX0 : ∀ (v : St), r = v → ∀ (H : Heap) (locs : List Loc) (ls : Array Slot), Wd g s v H locs → lv_has ls 5 [] → W p l e (rmm 1 21) s m args below meth c H locs 0 0 Q (F0 m 180 ls [])) : ∀ (n : Nat) (z : Int32 × St) {H : Heap} {locs : List Loc} {ls : Array Slot}, Wd g s z.2 H locs → lv_has ls 5 [(0, .ref (g.2.2 (101))), (1, .int (x1)), (2, .int (x2)), (3, .int (x3)), (4, .int (z.1))] → lp (f_X11_bounds_l39 x1 x2 x3) n z = some r → W p l e (rmm 1 21) s m args below meth c H locs 0 0 Q (F0 m 39 ls []) := by
  intro n
  induction n with
  | zero => intro z H locs ls Y hl h; cases h
  | succ n ih =>
    intro z H locs ls Y hl h
    obtain ⟨w, h, hw⟩ := lps h
    have KB : ∀ (v0_ : Int32) (v1_ : St), w = .inl (v0_, v1_) → ∀ (H : Heap) (locs : List Loc) (ls : Array Slot), Wd g s v1_ H locs → lv_has ls 5 [(0, .ref (g.2.2 (101))), (1, .int (x1)), (2, .int (x2)), (3, .int (x3)), (4, .int (v0_))] → W p l e (rmm 1 21) s m args below meth c H locs 0 0 Q (F0 m 39 ls []) := fun v0_ v1_ e H locs ls Y hl => ih (v0_, v1_) Y hl (lpl hw e)
    have KX0 := fun (v : St) (e : w = .inr v) => KX0 v (lpr hw e)
    unfold f_X11_bounds_l39 at h
    refine lv_iload X.1 X.2.1 (dk T_X11_bounds 24 rfl) (lv_at hl 4 rfl) ?_
    refine lv_aload_n X.1 X.2.1 (dk T_X11_bounds 25 rfl) rfl (lv_at hl 0 rfl) ?_
    refine lv_iload_n X.1 X.2.1 (dk T_X11_bounds 26 rfl) rfl (lv_at hl 1 rfl) ?_
    obtain ⟨q2, hq2, h⟩ := bs h
    refine gvI (rest := [.int (z.1)]) X Y (c_X11_cells x1 z.2 hq2) cb_X11_149 rfl hl.1 rfl rfl (Nat.le_of_ble_eq_true rfl) ⟨Nat.le_of_ble_eq_true rfl, Nat.le_of_ble_eq_true rfl⟩ (dk T_X11_bounds 27 rfl) (fun H locs Y => ?_)
    refine lv_icmp_ge (tgt := 180) X.1 X.2.1 (dk T_X11_bounds 28 rfl) rfl (fun c3 => ?_) (fun c3 => ?_)
    · replace h := ipos c3 h
      exact KX0 z.2 (Option.some.inj h).symm _ _ _ Y (lv_sub hl [] rfl)
    · replace h := ineg c3 h
      refine lv_aload_n X.1 X.2.1 (dk T_X11_bounds 29 rfl) rfl (lv_at hl 0 rfl) ?_
      refine gg X Y fl_X11_40 rfl rfl (dk T_X11_bounds 30 rfl) ?_
      refine lv_iload X.1 X.2.1 (dk T_X11_bounds 31 rfl) (lv_at hl 4 rfl) ?_
      obtain ⟨g4, h⟩ := gd h
      refine gil X Y rfl (inp g4) (dk T_X11_bounds 32 rfl) ?_
      refine lv_iload_n X.1 X.2.1 (dk T_X11_bounds 33 rfl) rfl (lv_at hl 2 rfl) ?_
      refine lv_icmp_ne (tgt := 174) X.1 X.2.1 (dk T_X11_bounds 34 rfl) rfl (fun c5 => ?_) (fun c5 => ?_)
      · replace h := ineg c5 h
        exact w_X11_bounds_j174 X x1 x2 x3 z.1 z.2 KB KX0 Y (lv_sub hl [0, 1, 2, 3, 4] rfl) h
      · replace h := ipos c5 h
        refine lv_aload_n X.1 X.2.1 (dk T_X11_bounds 35 rfl) rfl (lv_at hl 0 rfl) ?_
        refine lv_iload X.1 X.2.1 (dk T_X11_bounds 36 rfl) (lv_at hl 4 rfl) ?_
        refine lv_iload_n X.1 X.2.1 (dk T_X11_bounds 37 rfl) rfl (lv_at hl 3 rfl) ?_
        obtain ⟨g6, h⟩ := gd h
        refine lv_irem X.1 X.2.1 (dk T_X11_bounds 38 rfl) (nzp g6) ?_
        refine lv_aload_n X.1 X.2.1 (dk T_X11_bounds 39 rfl) rfl (lv_at hl 0 rfl) ?_
        refine gg X Y fl_X11_264 rfl rfl (dk T_X11_bounds 40 rfl) ?_
        refine lv_icmp_ge (tgt := 79) X.1 X.2.1 (dk T_X11_bounds 41 rfl) rfl (fun c7 => ?_) (fun c7 => ?_)
        · replace h := ipos c7 h
          refine lv_aload_n X.1 X.2.1 (dk T_X11_bounds 46 rfl) rfl (lv_at hl 0 rfl) ?_
          refine gg X Y fl_X11_264 rfl rfl (dk T_X11_bounds 47 rfl) ?_
          exact w_X11_bounds_j83 X x1 x2 x3 z.1 (z.2 101 26) z.2 KB KX0 Y (lv_sub hl [0, 1, 2, 3, 4] rfl) h
        · replace h := ineg c7 h
          refine lv_iload X.1 X.2.1 (dk T_X11_bounds 42 rfl) (lv_at hl 4 rfl) ?_
          refine lv_iload_n X.1 X.2.1 (dk T_X11_bounds 43 rfl) rfl (lv_at hl 3 rfl) ?_
          obtain ⟨g17, h⟩ := gd h
          refine lv_irem X.1 X.2.1 (dk T_X11_bounds 44 rfl) (nzp g17) ?_
          refine lv_goto (tgt := 83) X.1 X.2.1 (dk T_X11_bounds 45 rfl) rfl ?_
          exact w_X11_bounds_j83 X x1 x2 x3 z.1 (z.1 - z.1 / x3 * x3) z.2 KB KX0 Y (lv_sub hl [0, 1, 2, 3, 4] rfl) h
def f_X11_bounds_0 (x1 : Int32) (x2 : Int32) (σ : St) : Option (St) :=
  chk (inb (3 + x1) 761) ((lp (f_X11_bounds_l39 x1 x2 (σ 102 (3 + x1).toNatClampNeg)) FU (0, up (up (up (up (up σ 101 26 10) 101 27 (-1)) 101 28 10) 101 29 (-1)) 101 30 0)).bind fun q18 => some q18)
set_option maxHeartbeats 4000000 in
set_option maxRecDepth 100000 in
theorem w_X11_bounds_0 (X : Cx g RX11 cX11_bounds 5 none p s m args meth c) (x1 : Int32) (x2 : Int32) (σ : St) {w : St} (KR : ∀ (H : Heap) (locs : List Loc) (ls : Array Slot) (pc : Nat), Wd g s w H locs → decode cX11_bounds pc = .ok (.return_, 1) → W p l e (rmm 1 21) s m args below meth c H locs 0 0 Q (F0 m pc ls [])) {H : Heap} {locs : List Loc} {ls : Array Slot} (Y : Wd g s σ H locs) (hl : lv_has ls 5 [(0, .ref (g.2.2 (101))), (1, .int (x1)), (2, .int (x2))]) (h : f_X11_bounds_0 x1 x2 σ = some w) : W p l e (rmm 1 21) s m args below meth c H locs 0 0 Q (F0 m 0 ls []) := by
  unfold f_X11_bounds_0 at h
  refine lv_aload_n X.1 X.2.1 (dk T_X11_bounds 0 rfl) rfl (lv_at hl 0 rfl) ?_
  refine gg X Y fl_X11_7 rfl rfl (dk T_X11_bounds 1 rfl) ?_
  refine lv_iconst (v := 3) X.1 X.2.1 (dk T_X11_bounds 2 rfl) ic_3 ?_
  refine lv_iload_n X.1 X.2.1 (dk T_X11_bounds 3 rfl) rfl (lv_at hl 1 rfl) ?_
  refine lv_iadd X.1 X.2.1 (dk T_X11_bounds 4 rfl) ?_
  obtain ⟨g1, h⟩ := gd h
  refine gil X Y rfl (inp g1) (dk T_X11_bounds 5 rfl) ?_
  refine lv_istore_n (lv' := [(3, .int (σ 102 (3 + x1).toNatClampNeg)), (0, .ref (g.2.2 (101))), (1, .int (x1)), (2, .int (x2))]) X.1 X.2.1 (dk T_X11_bounds 6 rfl) rfl hl (Nat.le_of_ble_eq_true rfl) rfl (fun ls hl => ?_)
  refine lv_aload_n X.1 X.2.1 (dk T_X11_bounds 7 rfl) rfl (lv_at hl 1 rfl) ?_
  refine lv_bipush (v := 10) X.1 X.2.1 (dk T_X11_bounds 8 rfl) bp_10 ?_
  refine gp X Y fp_X11_264 rfl (nar_int _) (dk T_X11_bounds 9 rfl) (fun H locs Y => ?_)
  refine lv_aload_n X.1 X.2.1 (dk T_X11_bounds 10 rfl) rfl (lv_at hl 1 rfl) ?_
  refine lv_iconst (v := (-1)) X.1 X.2.1 (dk T_X11_bounds 11 rfl) ic_m1 ?_
  refine gp X Y fp_X11_267 rfl (nar_int _) (dk T_X11_bounds 12 rfl) (fun H locs Y => ?_)
  refine lv_aload_n X.1 X.2.1 (dk T_X11_bounds 13 rfl) rfl (lv_at hl 1 rfl) ?_
  refine lv_bipush (v := 10) X.1 X.2.1 (dk T_X11_bounds 14 rfl) bp_10 ?_
  refine gp X Y fp_X11_270 rfl (nar_int _) (dk T_X11_bounds 15 rfl) (fun H locs Y => ?_)
  refine lv_aload_n X.1 X.2.1 (dk T_X11_bounds 16 rfl) rfl (lv_at hl 1 rfl) ?_
  refine lv_iconst (v := (-1)) X.1 X.2.1 (dk T_X11_bounds 17 rfl) ic_m1 ?_
  refine gp X Y fp_X11_273 rfl (nar_int _) (dk T_X11_bounds 18 rfl) (fun H locs Y => ?_)
  refine lv_aload_n X.1 X.2.1 (dk T_X11_bounds 19 rfl) rfl (lv_at hl 1 rfl) ?_
  refine lv_iconst (v := 0) X.1 X.2.1 (dk T_X11_bounds 20 rfl) ic_0 ?_
  refine gp X Y fp_X11_276 rfl (nar_int _) (dk T_X11_bounds 21 rfl) (fun H locs Y => ?_)
  refine lv_iconst (v := 0) X.1 X.2.1 (dk T_X11_bounds 22 rfl) ic_0 ?_
  refine lv_istore (lv' := [(4, .int (0)), (3, .int (σ 102 (3 + x1).toNatClampNeg)), (0, .ref (g.2.2 (101))), (1, .int (x1)), (2, .int (x2))]) X.1 X.2.1 (dk T_X11_bounds 23 rfl) hl (Nat.le_of_ble_eq_true rfl) rfl (fun ls hl => ?_)
  obtain ⟨q18, hq18, h⟩ := bs h
  refine w_X11_bounds_l39 X x1 x2 (σ 102 (3 + x1).toNatClampNeg) σ (fun v e H locs ls Y hl => ?_) FU (0, up (up (up (up (up σ 101 26 10) 101 27 (-1)) 101 28 10) 101 29 (-1)) 101 30 0) Y (lv_sub hl [2, 3, 4, 1, 0] rfl) hq18
  · obtain rfl := e
    obtain rfl := Option.some.inj h
    exact KR _ _ _ _ Y (dk T_X11_bounds 99 rfl)
def f_X11_bounds (x1 : Int32) (x2 : Int32) (σ : St) : Option (St) := f_X11_bounds_0 x1 x2 σ
set_option maxHeartbeats 4000000 in
set_option maxRecDepth 100000 in
theorem c_X11_bounds {l : Launch} {g : Geo} (x1 : Int32) (x2 : Int32) (σ : St) {w : St} (h : f_X11_bounds x1 x2 σ = some w) : CtV l yX11_bounds cX11_bounds 5 none (rmm 1 21) g [.ref (g.2.2 (101)), .int (x1), .int (x2)] σ w := enV (by decide) rfl (Nat.le_of_ble_eq_true rfl) (fun p e s m args below meth c Q X Y ls hl KR => w_X11_bounds_0 X x1 x2 σ KR Y hl h)
def I_X11_lowestOf : List (Nat × Instr × Nat) := [(0, .iconst 0, 1), (1, .istore_n 2, 1), (2, .aload_n 0, 1), (3, .getfield 40, 3), (6, .iload_n 2, 1), (7, .iaload, 1), (8, .iload_n 1, 1), (9, .if_icmp .eq 9, 3), (12, .iinc 2 1, 3), (15, .goto (-13), 3), (18, .iload_n 2, 1), (19, .ireturn, 1)]
set_option maxRecDepth 100000 in
theorem T_X11_lowestOf : ∀ q ∈ I_X11_lowestOf, decode cX11_lowestOf q.1 = .ok (q.2.1, q.2.2) := by decide +kernel
def f_X11_lowestOf_l2 (x1 : Int32) (σ : St) (z : Int32) : Option ((Int32) ⊕ (Int32)) :=
  chk (inb z 100) (if (σ 112 z.toNatClampNeg) = x1 then some (.inr z) else some (.inl (z + 1)))
set_option maxHeartbeats 4000000 in
set_option maxRecDepth 100000 in
theorem w_X11_lowestOf_l2 (X : Cx g RX11 cX11_lowestOf 3 (some .int) p s m args meth c) (x1 : Int32) (σ : St) {r : Int32} (KX0 : ∀ (v : Int32), r = v → ∀ (H : Heap) (locs : List Loc) (ls : Array Slot), Wd g s σ H locs → lv_has ls 3 [(2, .int (v))] → W p l e (rmm 0 0) s m args below meth c H locs 0 0 Q (F0 m 18 ls [])) : ∀ (n : Nat) (z : Int32) {H : Heap} {locs : List Loc} {ls : Array Slot}, Wd g s σ H locs → lv_has ls 3 [(0, .ref (g.2.2 (101))), (1, .int (x1)), (2, .int (z))] → lp (f_X11_lowestOf_l2 x1 σ) n z = some r → W p l e (rmm 0 0) s m args below meth c H locs 0 0 Q (F0 m 2 ls []) := by
  intro n
  induction n with
  | zero => intro z H locs ls Y hl h; cases h
  | succ n ih =>
    intro z H locs ls Y hl h
    obtain ⟨w, h, hw⟩ := lps h
    have KB : ∀ (v : Int32), w = .inl v → ∀ (H : Heap) (locs : List Loc) (ls : Array Slot), Wd g s σ H locs → lv_has ls 3 [(0, .ref (g.2.2 (101))), (1, .int (x1)), (2, .int (v))] → W p l e (rmm 0 0) s m args below meth c H locs 0 0 Q (F0 m 2 ls []) := fun v e H locs ls Y hl => ih v Y hl (lpl hw e)
    have KX0 := fun (v : Int32) (e : w = .inr v) => KX0 v (lpr hw e)
    unfold f_X11_lowestOf_l2 at h
    refine lv_aload_n X.1 X.2.1 (dk T_X11_lowestOf 2 rfl) rfl (lv_at hl 0 rfl) ?_
    refine gg X Y fl_X11_40 rfl rfl (dk T_X11_lowestOf 3 rfl) ?_
    refine lv_iload_n X.1 X.2.1 (dk T_X11_lowestOf 4 rfl) rfl (lv_at hl 2 rfl) ?_
    obtain ⟨g1, h⟩ := gd h
    refine gil X Y rfl (inp g1) (dk T_X11_lowestOf 5 rfl) ?_
    refine lv_iload_n X.1 X.2.1 (dk T_X11_lowestOf 6 rfl) rfl (lv_at hl 1 rfl) ?_
    refine lv_icmp_eq (tgt := 18) X.1 X.2.1 (dk T_X11_lowestOf 7 rfl) rfl (fun c2 => ?_) (fun c2 => ?_)
    · replace h := ipos c2 h
      exact KX0 z (Option.some.inj h).symm _ _ _ Y (lv_sub hl [2] rfl)
    · replace h := ineg c2 h
      refine lv_iinc (v := z + 1) (lv' := [(2, .int (z + 1)), (0, .ref (g.2.2 (101))), (1, .int (x1))]) X.1 X.2.1 (dk T_X11_lowestOf 8 rfl) hl (k := 2) rfl (icx ic_1) (Nat.le_of_ble_eq_true rfl) rfl (fun ls hl => ?_)
      refine lv_goto (tgt := 2) X.1 X.2.1 (dk T_X11_lowestOf 9 rfl) rfl ?_
      exact KB (z + 1) (Option.some.inj h).symm _ _ _ Y (lv_sub hl [1, 2, 0] rfl)
def f_X11_lowestOf_0 (x1 : Int32) (σ : St) : Option (Int32) :=
  (lp (f_X11_lowestOf_l2 x1 σ) FU 0).bind fun q3 => some q3
set_option maxHeartbeats 4000000 in
set_option maxRecDepth 100000 in
theorem w_X11_lowestOf_0 (X : Cx g RX11 cX11_lowestOf 3 (some .int) p s m args meth c) (x1 : Int32) (σ : St) {w : Int32} (KR : ∀ (H : Heap) (locs : List Loc) (ls : Array Slot) (pc : Nat), Wd g s σ H locs → decode cX11_lowestOf pc = .ok (.ireturn, 1) → W p l e (rmm 0 0) s m args below meth c H locs 0 0 Q (F0 m pc ls [.int (w)])) {H : Heap} {locs : List Loc} {ls : Array Slot} (Y : Wd g s σ H locs) (hl : lv_has ls 3 [(0, .ref (g.2.2 (101))), (1, .int (x1))]) (h : f_X11_lowestOf_0 x1 σ = some w) : W p l e (rmm 0 0) s m args below meth c H locs 0 0 Q (F0 m 0 ls []) := by
  unfold f_X11_lowestOf_0 at h
  refine lv_iconst (v := 0) X.1 X.2.1 (dk T_X11_lowestOf 0 rfl) ic_0 ?_
  refine lv_istore_n (lv' := [(2, .int (0)), (0, .ref (g.2.2 (101))), (1, .int (x1))]) X.1 X.2.1 (dk T_X11_lowestOf 1 rfl) rfl hl (Nat.le_of_ble_eq_true rfl) rfl (fun ls hl => ?_)
  obtain ⟨q3, hq3, h⟩ := bs h
  refine w_X11_lowestOf_l2 X x1 σ (fun v e H locs ls Y hl => ?_) FU 0 Y (lv_sub hl [1, 2, 0] rfl) hq3
  · obtain rfl := e
    refine lv_iload_n X.1 X.2.1 (dk T_X11_lowestOf 10 rfl) rfl (lv_at hl 0 rfl) ?_
    obtain rfl := Option.some.inj h
    exact KR _ _ _ _ Y (dk T_X11_lowestOf 11 rfl)
def f_X11_lowestOf (x1 : Int32) (σ : St) : Option (Int32) := f_X11_lowestOf_0 x1 σ
set_option maxHeartbeats 4000000 in
set_option maxRecDepth 100000 in
theorem c_X11_lowestOf {l : Launch} {g : Geo} (x1 : Int32) (σ : St) {w : Int32} (h : f_X11_lowestOf x1 σ = some w) : CtI l yX11_lowestOf cX11_lowestOf 3 (some .int) (rmm 0 0) g [.ref (g.2.2 (101)), .int (x1)] σ w σ := enI .int (by decide) rfl rfl (Nat.le_of_ble_eq_true rfl) (fun p e s m args below meth c Q X Y ls hl KR => w_X11_lowestOf_0 X x1 σ KR Y hl h)
def I_X11_isRectangle : List (Nat × Instr × Nat) := [(0, .iconst 1, 1), (1, .istore 7, 2), (3, .iload 4, 2), (5, .istore 8, 2), (7, .iload 8, 2), (9, .iload 6, 2), (11, .if_icmp .gt 59, 3), (14, .iload 7, 2), (16, .ifCond .eq 54, 3), (19, .iload_n 3, 1), (20, .istore 9, 2), (22, .iload 9, 2), (24, .iload 5, 2), (26, .if_icmp .gt 38, 3), (29, .iload 7, 2), (31, .ifCond .eq 24, 3), (34, .aload_n 0, 1), (35, .getfield 40, 3), (38, .iload_n 1, 1), (39, .iload 9, 2), (41, .iload 8, 2), (43, .invokestatic 102, 3), (46, .iaload, 1), (47, .iload_n 2, 1), (48, .if_icmp .ne 7, 3), (51, .iconst 1, 1), (52, .goto 4, 3), (55, .iconst 0, 1), (56, .istore 7, 2), (58, .iinc 9 1, 3), (61, .goto (-39), 3), (64, .iinc 8 1, 3), (67, .goto (-60), 3), (70, .iload 7, 2), (72, .ireturn, 1)]
set_option maxRecDepth 100000 in
theorem T_X11_isRectangle : ∀ q ∈ I_X11_isRectangle, decode cX11_isRectangle q.1 = .ok (q.2.1, q.2.2) := by decide +kernel
def f_X11_isRectangle_j56 (x1 : Int32) (x2 : Int32) (x3 : Int32) (x5 : Int32) (x6 : Int32) (x8 : Int32) (x9 : Int32) (s0 : Int32) (σ : St) : Option ((Int32 × Int32) ⊕ (Int32)) :=
  some (.inl (s0, x9 + 1))
set_option maxHeartbeats 4000000 in
set_option maxRecDepth 100000 in
theorem w_X11_isRectangle_j56 (X : Cx g RX11 cX11_isRectangle 10 (some .boolean) p s m args meth c) (x1 : Int32) (x2 : Int32) (x3 : Int32) (x5 : Int32) (x6 : Int32) (x8 : Int32) (x9 : Int32) (s0 : Int32) (σ : St) {w : (Int32 × Int32) ⊕ (Int32)} (KB : ∀ (v0_ : Int32) (v1_ : Int32), w = .inl (v0_, v1_) → ∀ (H : Heap) (locs : List Loc) (ls : Array Slot), Wd g s σ H locs → lv_has ls 10 [(0, .ref (g.2.2 (101))), (1, .int (x1)), (2, .int (x2)), (3, .int (x3)), (5, .int (x5)), (6, .int (x6)), (7, .int (v0_)), (8, .int (x8)), (9, .int (v1_))] → W p l e (rmm 1 22) s m args below meth c H locs 0 0 Q (F0 m 22 ls [])) (KX0 : ∀ (v : Int32), w = .inr v → ∀ (H : Heap) (locs : List Loc) (ls : Array Slot), Wd g s σ H locs → lv_has ls 10 [(0, .ref (g.2.2 (101))), (1, .int (x1)), (2, .int (x2)), (3, .int (x3)), (5, .int (x5)), (6, .int (x6)), (7, .int (v)), (8, .int (x8))] → W p l e (rmm 1 22) s m args below meth c H locs 0 0 Q (F0 m 64 ls [])) {H : Heap} {locs : List Loc} {ls : Array Slot} (Y : Wd g s σ H locs) (hl : lv_has ls 10 [(0, .ref (g.2.2 (101))), (1, .int (x1)), (2, .int (x2)), (3, .int (x3)), (5, .int (x5)), (6, .int (x6)), (8, .int (x8)), (9, .int (x9))]) (h : f_X11_isRectangle_j56 x1 x2 x3 x5 x6 x8 x9 s0 σ = some w) : W p l e (rmm 1 22) s m args below meth c H locs 0 0 Q (F0 m 56 ls [.int (s0)]) := by
  unfold f_X11_isRectangle_j56 at h
  refine lv_istore (lv' := [(7, .int (s0)), (0, .ref (g.2.2 (101))), (1, .int (x1)), (2, .int (x2)), (3, .int (x3)), (5, .int (x5)), (6, .int (x6)), (8, .int (x8)), (9, .int (x9))]) X.1 X.2.1 (dk T_X11_isRectangle 28 rfl) hl (Nat.le_of_ble_eq_true rfl) rfl (fun ls hl => ?_)
  refine lv_iinc (v := x9 + 1) (lv' := [(9, .int (x9 + 1)), (7, .int (s0)), (0, .ref (g.2.2 (101))), (1, .int (x1)), (2, .int (x2)), (3, .int (x3)), (5, .int (x5)), (6, .int (x6)), (8, .int (x8))]) X.1 X.2.1 (dk T_X11_isRectangle 29 rfl) hl (k := 8) rfl (icx ic_1) (Nat.le_of_ble_eq_true rfl) rfl (fun ls hl => ?_)
  refine lv_goto (tgt := 22) X.1 X.2.1 (dk T_X11_isRectangle 30 rfl) rfl ?_
  exact KB s0 (x9 + 1) (Option.some.inj h).symm _ _ _ Y (lv_sub hl [2, 3, 4, 5, 6, 7, 1, 8, 0] rfl)
def f_X11_isRectangle_j55 (x1 : Int32) (x2 : Int32) (x3 : Int32) (x5 : Int32) (x6 : Int32) (x8 : Int32) (x9 : Int32) (σ : St) : Option ((Int32 × Int32) ⊕ (Int32)) :=
  f_X11_isRectangle_j56 x1 x2 x3 x5 x6 x8 x9 0 σ
set_option maxHeartbeats 4000000 in
set_option maxRecDepth 100000 in
theorem w_X11_isRectangle_j55 (X : Cx g RX11 cX11_isRectangle 10 (some .boolean) p s m args meth c) (x1 : Int32) (x2 : Int32) (x3 : Int32) (x5 : Int32) (x6 : Int32) (x8 : Int32) (x9 : Int32) (σ : St) {w : (Int32 × Int32) ⊕ (Int32)} (KB : ∀ (v0_ : Int32) (v1_ : Int32), w = .inl (v0_, v1_) → ∀ (H : Heap) (locs : List Loc) (ls : Array Slot), Wd g s σ H locs → lv_has ls 10 [(0, .ref (g.2.2 (101))), (1, .int (x1)), (2, .int (x2)), (3, .int (x3)), (5, .int (x5)), (6, .int (x6)), (7, .int (v0_)), (8, .int (x8)), (9, .int (v1_))] → W p l e (rmm 1 22) s m args below meth c H locs 0 0 Q (F0 m 22 ls [])) (KX0 : ∀ (v : Int32), w = .inr v → ∀ (H : Heap) (locs : List Loc) (ls : Array Slot), Wd g s σ H locs → lv_has ls 10 [(0, .ref (g.2.2 (101))), (1, .int (x1)), (2, .int (x2)), (3, .int (x3)), (5, .int (x5)), (6, .int (x6)), (7, .int (v)), (8, .int (x8))] → W p l e (rmm 1 22) s m args below meth c H locs 0 0 Q (F0 m 64 ls [])) {H : Heap} {locs : List Loc} {ls : Array Slot} (Y : Wd g s σ H locs) (hl : lv_has ls 10 [(0, .ref (g.2.2 (101))), (1, .int (x1)), (2, .int (x2)), (3, .int (x3)), (5, .int (x5)), (6, .int (x6)), (8, .int (x8)), (9, .int (x9))]) (h : f_X11_isRectangle_j55 x1 x2 x3 x5 x6 x8 x9 σ = some w) : W p l e (rmm 1 22) s m args below meth c H locs 0 0 Q (F0 m 55 ls []) := by
  unfold f_X11_isRectangle_j55 at h
  refine lv_iconst (v := 0) X.1 X.2.1 (dk T_X11_isRectangle 27 rfl) ic_0 ?_
  exact w_X11_isRectangle_j56 X x1 x2 x3 x5 x6 x8 x9 0 σ KB KX0 Y (lv_sub hl [0, 1, 2, 3, 4, 5, 6, 7] rfl) h
def f_X11_isRectangle_l22 (x1 : Int32) (x2 : Int32) (x3 : Int32) (x5 : Int32) (x6 : Int32) (x8 : Int32) (σ : St) (z : Int32 × Int32) : Option ((Int32 × Int32) ⊕ (Int32)) :=
  if x5 < z.2 then some (.inr z.1) else if z.1 = 0 then f_X11_isRectangle_j55 x1 x2 x3 x5 x6 x8 z.2 σ else (f_X11_at x1 z.2 x8).bind fun q5 => chk (inb q5 100) (if (σ 112 q5.toNatClampNeg) = x2 then f_X11_isRectangle_j56 x1 x2 x3 x5 x6 x8 z.2 1 σ else f_X11_isRectangle_j55 x1 x2 x3 x5 x6 x8 z.2 σ)
set_option maxHeartbeats 4000000 in
set_option maxRecDepth 100000 in
theorem w_X11_isRectangle_l22 (X : Cx g RX11 cX11_isRectangle 10 (some .boolean) p s m args meth c) (x1 : Int32) (x2 : Int32) (x3 : Int32) (x5 : Int32) (x6 : Int32) (x8 : Int32) (σ : St) {r : Int32} (KX0 : ∀ (v : Int32), r = v → ∀ (H : Heap) (locs : List Loc) (ls : Array Slot), Wd g s σ H locs → lv_has ls 10 [(0, .ref (g.2.2 (101))), (1, .int (x1)), (2, .int (x2)), (3, .int (x3)), (5, .int (x5)), (6, .int (x6)), (7, .int (v)), (8, .int (x8))] → W p l e (rmm 1 22) s m args below meth c H locs 0 0 Q (F0 m 64 ls [])) : ∀ (n : Nat) (z : Int32 × Int32) {H : Heap} {locs : List Loc} {ls : Array Slot}, Wd g s σ H locs → lv_has ls 10 [(0, .ref (g.2.2 (101))), (1, .int (x1)), (2, .int (x2)), (3, .int (x3)), (5, .int (x5)), (6, .int (x6)), (7, .int (z.1)), (8, .int (x8)), (9, .int (z.2))] → lp (f_X11_isRectangle_l22 x1 x2 x3 x5 x6 x8 σ) n z = some r → W p l e (rmm 1 22) s m args below meth c H locs 0 0 Q (F0 m 22 ls []) := by
  intro n
  induction n with
  | zero => intro z H locs ls Y hl h; cases h
  | succ n ih =>
    intro z H locs ls Y hl h
    obtain ⟨w, h, hw⟩ := lps h
    have KB : ∀ (v0_ : Int32) (v1_ : Int32), w = .inl (v0_, v1_) → ∀ (H : Heap) (locs : List Loc) (ls : Array Slot), Wd g s σ H locs → lv_has ls 10 [(0, .ref (g.2.2 (101))), (1, .int (x1)), (2, .int (x2)), (3, .int (x3)), (5, .int (x5)), (6, .int (x6)), (7, .int (v0_)), (8, .int (x8)), (9, .int (v1_))] → W p l e (rmm 1 22) s m args below meth c H locs 0 0 Q (F0 m 22 ls []) := fun v0_ v1_ e H locs ls Y hl => ih (v0_, v1_) Y hl (lpl hw e)
    have KX0 := fun (v : Int32) (e : w = .inr v) => KX0 v (lpr hw e)
    unfold f_X11_isRectangle_l22 at h
    refine lv_iload X.1 X.2.1 (dk T_X11_isRectangle 11 rfl) (lv_at hl 8 rfl) ?_
    refine lv_iload X.1 X.2.1 (dk T_X11_isRectangle 12 rfl) (lv_at hl 4 rfl) ?_
    refine lv_icmp_gt (tgt := 64) X.1 X.2.1 (dk T_X11_isRectangle 13 rfl) rfl (fun c3 => ?_) (fun c3 => ?_)
    · replace h := ipos c3 h
      exact KX0 z.1 (Option.some.inj h).symm _ _ _ Y (lv_sub hl [0, 1, 2, 3, 4, 5, 6, 7] rfl)
    · replace h := ineg c3 h
      refine lv_iload X.1 X.2.1 (dk T_X11_isRectangle 14 rfl) (lv_at hl 6 rfl) ?_
      refine lv_if_eq (tgt := 55) X.1 X.2.1 (dk T_X11_isRectangle 15 rfl) rfl (fun c4 => ?_) (fun c4 => ?_)
      · replace h := ipos c4 h
        exact w_X11_isRectangle_j55 X x1 x2 x3 x5 x6 x8 z.2 σ KB KX0 Y (lv_sub hl [0, 1, 2, 3, 4, 5, 7, 8] rfl) h
      · replace h := ineg c4 h
        refine lv_aload_n X.1 X.2.1 (dk T_X11_isRectangle 16 rfl) rfl (lv_at hl 0 rfl) ?_
        refine gg X Y fl_X11_40 rfl rfl (dk T_X11_isRectangle 17 rfl) ?_
        refine lv_iload_n X.1 X.2.1 (dk T_X11_isRectangle 18 rfl) rfl (lv_at hl 1 rfl) ?_
        refine lv_iload X.1 X.2.1 (dk T_X11_isRectangle 19 rfl) (lv_at hl 8 rfl) ?_
        refine lv_iload X.1 X.2.1 (dk T_X11_isRectangle 20 rfl) (lv_at hl 7 rfl) ?_
        obtain ⟨q5, hq5, h⟩ := bs h
        refine gsI (rest := [.ref (g.2.2 (112))]) X Y (c_X11_at x1 z.2 x8 σ hq5) cb_X11_102 hl.1 rfl rfl (Nat.le_of_ble_eq_true rfl) ⟨Nat.le_of_ble_eq_true rfl, Nat.le_of_ble_eq_true rfl⟩ (dk T_X11_isRectangle 21 rfl) (fun H locs Y => ?_)
        obtain ⟨g6, h⟩ := gd h
        refine gil X Y rfl (inp g6) (dk T_X11_isRectangle 22 rfl) ?_
        refine lv_iload_n X.1 X.2.1 (dk T_X11_isRectangle 23 rfl) rfl (lv_at hl 2 rfl) ?_
        refine lv_icmp_ne (tgt := 55) X.1 X.2.1 (dk T_X11_isRectangle 24 rfl) rfl (fun c7 => ?_) (fun c7 => ?_)
        · replace h := ineg c7 h
          exact w_X11_isRectangle_j55 X x1 x2 x3 x5 x6 x8 z.2 σ KB KX0 Y (lv_sub hl [0, 1, 2, 3, 4, 5, 7, 8] rfl) h
        · replace h := ipos c7 h
          refine lv_iconst (v := 1) X.1 X.2.1 (dk T_X11_isRectangle 25 rfl) ic_1 ?_
          refine lv_goto (tgt := 56) X.1 X.2.1 (dk T_X11_isRectangle 26 rfl) rfl ?_
          exact w_X11_isRectangle_j56 X x1 x2 x3 x5 x6 x8 z.2 1 σ KB KX0 Y (lv_sub hl [0, 1, 2, 3, 4, 5, 7, 8] rfl) h
def f_X11_isRectangle_l7 (x1 : Int32) (x2 : Int32) (x3 : Int32) (x5 : Int32) (x6 : Int32) (σ : St) (z : Int32 × Int32) : Option ((Int32 × Int32) ⊕ (Int32)) :=
  if x6 < z.2 then some (.inr z.1) else if z.1 = 0 then some (.inr z.1) else (lp (f_X11_isRectangle_l22 x1 x2 x3 x5 x6 z.2 σ) FU (z.1, x3)).bind fun q8 => some (.inl (q8, z.2 + 1))
set_option maxHeartbeats 4000000 in
set_option maxRecDepth 100000 in
theorem w_X11_isRectangle_l7 (X : Cx g RX11 cX11_isRectangle 10 (some .boolean) p s m args meth c) (x1 : Int32) (x2 : Int32) (x3 : Int32) (x5 : Int32) (x6 : Int32) (σ : St) {r : Int32} (KX0 : ∀ (v : Int32), r = v → ∀ (H : Heap) (locs : List Loc) (ls : Array Slot), Wd g s σ H locs → lv_has ls 10 [(7, .int (v))] → W p l e (rmm 1 22) s m args below meth c H locs 0 0 Q (F0 m 70 ls [])) : ∀ (n : Nat) (z : Int32 × Int32) {H : Heap} {locs : List Loc} {ls : Array Slot}, Wd g s σ H locs → lv_has ls 10 [(0, .ref (g.2.2 (101))), (1, .int (x1)), (2, .int (x2)), (3, .int (x3)), (5, .int (x5)), (6, .int (x6)), (7, .int (z.1)), (8, .int (z.2))] → lp (f_X11_isRectangle_l7 x1 x2 x3 x5 x6 σ) n z = some r → W p l e (rmm 1 22) s m args below meth c H locs 0 0 Q (F0 m 7 ls []) := by
  intro n
  induction n with
  | zero => intro z H locs ls Y hl h; cases h
  | succ n ih =>
    intro z H locs ls Y hl h
    obtain ⟨w, h, hw⟩ := lps h
    have KB : ∀ (v0_ : Int32) (v1_ : Int32), w = .inl (v0_, v1_) → ∀ (H : Heap) (locs : List Loc) (ls : Array Slot), Wd g s σ H locs → lv_has ls 10 [(0, .ref (g.2.2 (101))), (1, .int (x1)), (2, .int (x2)), (3, .int (x3)), (5, .int (x5)), (6, .int (x6)), (7, .int (v0_)), (8, .int (v1_))] → W p l e (rmm 1 22) s m args below meth c H locs 0 0 Q (F0 m 7 ls []) := fun v0_ v1_ e H locs ls Y hl => ih (v0_, v1_) Y hl (lpl hw e)
    have KX0 := fun (v : Int32) (e : w = .inr v) => KX0 v (lpr hw e)
    unfold f_X11_isRectangle_l7 at h
    refine lv_iload X.1 X.2.1 (dk T_X11_isRectangle 4 rfl) (lv_at hl 7 rfl) ?_
    refine lv_iload X.1 X.2.1 (dk T_X11_isRectangle 5 rfl) (lv_at hl 5 rfl) ?_
    refine lv_icmp_gt (tgt := 70) X.1 X.2.1 (dk T_X11_isRectangle 6 rfl) rfl (fun c1 => ?_) (fun c1 => ?_)
    · replace h := ipos c1 h
      exact KX0 z.1 (Option.some.inj h).symm _ _ _ Y (lv_sub hl [6] rfl)
    · replace h := ineg c1 h
      refine lv_iload X.1 X.2.1 (dk T_X11_isRectangle 7 rfl) (lv_at hl 6 rfl) ?_
      refine lv_if_eq (tgt := 70) X.1 X.2.1 (dk T_X11_isRectangle 8 rfl) rfl (fun c2 => ?_) (fun c2 => ?_)
      · replace h := ipos c2 h
        exact KX0 z.1 (Option.some.inj h).symm _ _ _ Y (lv_sub hl [6] rfl)
      · replace h := ineg c2 h
        refine lv_iload_n X.1 X.2.1 (dk T_X11_isRectangle 9 rfl) rfl (lv_at hl 3 rfl) ?_
        refine lv_istore (lv' := [(9, .int (x3)), (0, .ref (g.2.2 (101))), (1, .int (x1)), (2, .int (x2)), (3, .int (x3)), (5, .int (x5)), (6, .int (x6)), (7, .int (z.1)), (8, .int (z.2))]) X.1 X.2.1 (dk T_X11_isRectangle 10 rfl) hl (Nat.le_of_ble_eq_true rfl) rfl (fun ls hl => ?_)
        obtain ⟨q8, hq8, h⟩ := bs h
        refine w_X11_isRectangle_l22 X x1 x2 x3 x5 x6 z.2 σ (fun v e H locs ls Y hl => ?_) FU (z.1, x3) Y (lv_sub hl [1, 2, 3, 4, 5, 6, 7, 8, 0] rfl) hq8
        · obtain rfl := e
          refine lv_iinc (v := z.2 + 1) (lv' := [(8, .int (z.2 + 1)), (0, .ref (g.2.2 (101))), (1, .int (x1)), (2, .int (x2)), (3, .int (x3)), (5, .int (x5)), (6, .int (x6)), (7, .int (q8))]) X.1 X.2.1 (dk T_X11_isRectangle 31 rfl) hl (k := 7) rfl (icx ic_1) (Nat.le_of_ble_eq_true rfl) rfl (fun ls hl => ?_)
          refine lv_goto (tgt := 7) X.1 X.2.1 (dk T_X11_isRectangle 32 rfl) rfl ?_
          exact KB q8 (z.2 + 1) (Option.some.inj h).symm _ _ _ Y (lv_sub hl [1, 2, 3, 4, 5, 6, 7, 0] rfl)
def f_X11_isRectangle_0 (x1 : Int32) (x2 : Int32) (x3 : Int32) (x4 : Int32) (x5 : Int32) (x6 : Int32) (σ : St) : Option (Int32) :=
  (lp (f_X11_isRectangle_l7 x1 x2 x3 x5 x6 σ) FU (1, x4)).bind fun q9 => some q9
set_option maxHeartbeats 4000000 in
set_option maxRecDepth 100000 in
theorem w_X11_isRectangle_0 (X : Cx g RX11 cX11_isRectangle 10 (some .boolean) p s m args meth c) (x1 : Int32) (x2 : Int32) (x3 : Int32) (x4 : Int32) (x5 : Int32) (x6 : Int32) (σ : St) {w : Int32} (KR : ∀ (H : Heap) (locs : List Loc) (ls : Array Slot) (pc : Nat), Wd g s σ H locs → decode cX11_isRectangle pc = .ok (.ireturn, 1) → W p l e (rmm 1 22) s m args below meth c H locs 0 0 Q (F0 m pc ls [.int (w)])) {H : Heap} {locs : List Loc} {ls : Array Slot} (Y : Wd g s σ H locs) (hl : lv_has ls 10 [(0, .ref (g.2.2 (101))), (1, .int (x1)), (2, .int (x2)), (3, .int (x3)), (4, .int (x4)), (5, .int (x5)), (6, .int (x6))]) (h : f_X11_isRectangle_0 x1 x2 x3 x4 x5 x6 σ = some w) : W p l e (rmm 1 22) s m args below meth c H locs 0 0 Q (F0 m 0 ls []) := by
  unfold f_X11_isRectangle_0 at h
  refine lv_iconst (v := 1) X.1 X.2.1 (dk T_X11_isRectangle 0 rfl) ic_1 ?_
  refine lv_istore (lv' := [(7, .int (1)), (0, .ref (g.2.2 (101))), (1, .int (x1)), (2, .int (x2)), (3, .int (x3)), (4, .int (x4)), (5, .int (x5)), (6, .int (x6))]) X.1 X.2.1 (dk T_X11_isRectangle 1 rfl) hl (Nat.le_of_ble_eq_true rfl) rfl (fun ls hl => ?_)
  refine lv_iload X.1 X.2.1 (dk T_X11_isRectangle 2 rfl) (lv_at hl 5 rfl) ?_
  refine lv_istore (lv' := [(8, .int (x4)), (7, .int (1)), (0, .ref (g.2.2 (101))), (1, .int (x1)), (2, .int (x2)), (3, .int (x3)), (4, .int (x4)), (5, .int (x5)), (6, .int (x6))]) X.1 X.2.1 (dk T_X11_isRectangle 3 rfl) hl (Nat.le_of_ble_eq_true rfl) rfl (fun ls hl => ?_)
  obtain ⟨q9, hq9, h⟩ := bs h
  refine w_X11_isRectangle_l7 X x1 x2 x3 x5 x6 σ (fun v e H locs ls Y hl => ?_) FU (1, x4) Y (lv_sub hl [2, 3, 4, 5, 7, 8, 1, 0] rfl) hq9
  · obtain rfl := e
    refine lv_iload X.1 X.2.1 (dk T_X11_isRectangle 33 rfl) (lv_at hl 0 rfl) ?_
    obtain rfl := Option.some.inj h
    exact KR _ _ _ _ Y (dk T_X11_isRectangle 34 rfl)
def f_X11_isRectangle (x1 : Int32) (x2 : Int32) (x3 : Int32) (x4 : Int32) (x5 : Int32) (x6 : Int32) (σ : St) : Option (Int32) := bz (f_X11_isRectangle_0 x1 x2 x3 x4 x5 x6 σ)
set_option maxHeartbeats 4000000 in
set_option maxRecDepth 100000 in
theorem c_X11_isRectangle {l : Launch} {g : Geo} (x1 : Int32) (x2 : Int32) (x3 : Int32) (x4 : Int32) (x5 : Int32) (x6 : Int32) (σ : St) {w : Int32} (h : f_X11_isRectangle x1 x2 x3 x4 x5 x6 σ = some w) : CtI l yX11_isRectangle cX11_isRectangle 10 (some .boolean) (rmm 1 22) g [.ref (g.2.2 (101)), .int (x1), .int (x2), .int (x3), .int (x4), .int (x5), .int (x6)] σ w σ := by
  obtain ⟨h, hz⟩ := bz_s h
  exact enI .boolean (by decide) rfl (bz_n hz) (Nat.le_of_ble_eq_true rfl) (fun p e s m args below meth c Q X Y ls hl KR => w_X11_isRectangle_0 X x1 x2 x3 x4 x5 x6 σ KR Y hl h)
def I_X11_greatestRectangle : List (Nat × Instr × Nat) := [(0, .iconst 0, 1), (1, .istore_n 3, 1), (2, .aload_n 0, 1), (3, .getfield 270, 3), (6, .istore 4, 2), (8, .iload 4, 2), (10, .aload_n 0, 1), (11, .getfield 273, 3), (14, .if_icmp .gt 122, 3), (17, .aload_n 0, 1), (18, .getfield 264, 3), (21, .istore 5, 2), (23, .iload 5, 2), (25, .aload_n 0, 1), (26, .getfield 267, 3), (29, .if_icmp .gt 101, 3), (32, .iload 4, 2), (34, .istore 6, 2), (36, .iload 6, 2), (38, .aload_n 0, 1), (39, .getfield 273, 3), (42, .if_icmp .gt 82, 3), (45, .iload 5, 2), (47, .istore 7, 2), (49, .iload 7, 2), (51, .aload_n 0, 1), (52, .getfield 267, 3), (55, .if_icmp .gt 63, 3), (58, .iload 6, 2), (60, .iload 4, 2), (62, .isub, 1), (63, .iconst 1, 1), (64, .iadd, 1), (65, .iload 7, 2), (67, .iload 5, 2), (69, .isub, 1), (70, .iconst 1, 1), (71, .iadd, 1), (72, .imul, 1), (73, .istore 8, 2), (75, .iload 8, 2), (77, .iload_n 3, 1), (78, .if_icmp .le 32, 3), (81, .aload_n 0, 1), (82, .aload_n 0, 1), (83, .getfield 7, 3), (86, .iconst 3, 1), (87, .iload_n 1, 1), (88, .iadd, 1), (89, .iaload, 1), (90, .iload_n 2, 1), (91, .iload 5, 2), (93, .iload 4, 2), (95, .iload 7, 2), (97, .iload 6, 2), (99, .invokevirtual 279, 3), (102, .ifCond .eq 8, 3), (105, .iload 8, 2), (107, .goto 4, 3), (110, .iload_n 3, 1), (111, .istore_n 3, 1), (112, .iinc 7 1, 3), (115, .goto (-66), 3), (118, .iinc 6 1, 3), (121, .goto (-85), 3), (124, .iinc 5 1, 3), (127, .goto (-104), 3), (130, .iinc 4 1, 3), (133, .goto (-125), 3), (136, .iload_n 3, 1), (137, .ireturn, 1)]
set_option maxRecDepth 100000 in
theorem T_X11_greatestRectangle : ∀ q ∈ I_X11_greatestRectangle, decode cX11_greatestRectangle q.1 = .ok (q.2.1, q.2.2) := by decide +kernel
def f_X11_greatestRectangle_j111 (x1 : Int32) (x2 : Int32) (x4 : Int32) (x5 : Int32) (x6 : Int32) (x7 : Int32) (s0 : Int32) (σ : St) : Option ((Int32 × Int32) ⊕ (Int32)) :=
  some (.inl (s0, x7 + 1))
set_option maxHeartbeats 4000000 in
set_option maxRecDepth 100000 in
theorem w_X11_greatestRectangle_j111 (X : Cx g RX11 cX11_greatestRectangle 9 (some .int) p s m args meth c) (x1 : Int32) (x2 : Int32) (x4 : Int32) (x5 : Int32) (x6 : Int32) (x7 : Int32) (s0 : Int32) (σ : St) {w : (Int32 × Int32) ⊕ (Int32)} (KB : ∀ (v0_ : Int32) (v1_ : Int32), w = .inl (v0_, v1_) → ∀ (H : Heap) (locs : List Loc) (ls : Array Slot), Wd g s σ H locs → lv_has ls 9 [(0, .ref (g.2.2 (101))), (1, .int (x1)), (2, .int (x2)), (3, .int (v0_)), (4, .int (x4)), (5, .int (x5)), (6, .int (x6)), (7, .int (v1_))] → W p l e (rmm 2 51) s m args below meth c H locs 0 0 Q (F0 m 49 ls [])) (KX0 : ∀ (v : Int32), w = .inr v → ∀ (H : Heap) (locs : List Loc) (ls : Array Slot), Wd g s σ H locs → lv_has ls 9 [(0, .ref (g.2.2 (101))), (1, .int (x1)), (2, .int (x2)), (3, .int (v)), (4, .int (x4)), (5, .int (x5)), (6, .int (x6))] → W p l e (rmm 2 51) s m args below meth c H locs 0 0 Q (F0 m 118 ls [])) {H : Heap} {locs : List Loc} {ls : Array Slot} (Y : Wd g s σ H locs) (hl : lv_has ls 9 [(0, .ref (g.2.2 (101))), (1, .int (x1)), (2, .int (x2)), (4, .int (x4)), (5, .int (x5)), (6, .int (x6)), (7, .int (x7))]) (h : f_X11_greatestRectangle_j111 x1 x2 x4 x5 x6 x7 s0 σ = some w) : W p l e (rmm 2 51) s m args below meth c H locs 0 0 Q (F0 m 111 ls [.int (s0)]) := by
  unfold f_X11_greatestRectangle_j111 at h
  refine lv_istore_n (lv' := [(3, .int (s0)), (0, .ref (g.2.2 (101))), (1, .int (x1)), (2, .int (x2)), (4, .int (x4)), (5, .int (x5)), (6, .int (x6)), (7, .int (x7))]) X.1 X.2.1 (dk T_X11_greatestRectangle 60 rfl) rfl hl (Nat.le_of_ble_eq_true rfl) rfl (fun ls hl => ?_)
  refine lv_iinc (v := x7 + 1) (lv' := [(7, .int (x7 + 1)), (3, .int (s0)), (0, .ref (g.2.2 (101))), (1, .int (x1)), (2, .int (x2)), (4, .int (x4)), (5, .int (x5)), (6, .int (x6))]) X.1 X.2.1 (dk T_X11_greatestRectangle 61 rfl) hl (k := 7) rfl (icx ic_1) (Nat.le_of_ble_eq_true rfl) rfl (fun ls hl => ?_)
  refine lv_goto (tgt := 49) X.1 X.2.1 (dk T_X11_greatestRectangle 62 rfl) rfl ?_
  exact KB s0 (x7 + 1) (Option.some.inj h).symm _ _ _ Y (lv_sub hl [2, 3, 4, 1, 5, 6, 7, 0] rfl)
def f_X11_greatestRectangle_j110 (x1 : Int32) (x2 : Int32) (x3 : Int32) (x4 : Int32) (x5 : Int32) (x6 : Int32) (x7 : Int32) (σ : St) : Option ((Int32 × Int32) ⊕ (Int32)) :=
  f_X11_greatestRectangle_j111 x1 x2 x4 x5 x6 x7 x3 σ
set_option maxHeartbeats 4000000 in
set_option maxRecDepth 100000 in
theorem w_X11_greatestRectangle_j110 (X : Cx g RX11 cX11_greatestRectangle 9 (some .int) p s m args meth c) (x1 : Int32) (x2 : Int32) (x3 : Int32) (x4 : Int32) (x5 : Int32) (x6 : Int32) (x7 : Int32) (σ : St) {w : (Int32 × Int32) ⊕ (Int32)} (KB : ∀ (v0_ : Int32) (v1_ : Int32), w = .inl (v0_, v1_) → ∀ (H : Heap) (locs : List Loc) (ls : Array Slot), Wd g s σ H locs → lv_has ls 9 [(0, .ref (g.2.2 (101))), (1, .int (x1)), (2, .int (x2)), (3, .int (v0_)), (4, .int (x4)), (5, .int (x5)), (6, .int (x6)), (7, .int (v1_))] → W p l e (rmm 2 51) s m args below meth c H locs 0 0 Q (F0 m 49 ls [])) (KX0 : ∀ (v : Int32), w = .inr v → ∀ (H : Heap) (locs : List Loc) (ls : Array Slot), Wd g s σ H locs → lv_has ls 9 [(0, .ref (g.2.2 (101))), (1, .int (x1)), (2, .int (x2)), (3, .int (v)), (4, .int (x4)), (5, .int (x5)), (6, .int (x6))] → W p l e (rmm 2 51) s m args below meth c H locs 0 0 Q (F0 m 118 ls [])) {H : Heap} {locs : List Loc} {ls : Array Slot} (Y : Wd g s σ H locs) (hl : lv_has ls 9 [(0, .ref (g.2.2 (101))), (1, .int (x1)), (2, .int (x2)), (3, .int (x3)), (4, .int (x4)), (5, .int (x5)), (6, .int (x6)), (7, .int (x7))]) (h : f_X11_greatestRectangle_j110 x1 x2 x3 x4 x5 x6 x7 σ = some w) : W p l e (rmm 2 51) s m args below meth c H locs 0 0 Q (F0 m 110 ls []) := by
  unfold f_X11_greatestRectangle_j110 at h
  refine lv_iload_n X.1 X.2.1 (dk T_X11_greatestRectangle 59 rfl) rfl (lv_at hl 3 rfl) ?_
  exact w_X11_greatestRectangle_j111 X x1 x2 x4 x5 x6 x7 x3 σ KB KX0 Y (lv_sub hl [0, 1, 2, 4, 5, 6, 7] rfl) h
def f_X11_greatestRectangle_l49 (x1 : Int32) (x2 : Int32) (x4 : Int32) (x5 : Int32) (x6 : Int32) (σ : St) (z : Int32 × Int32) : Option ((Int32 × Int32) ⊕ (Int32)) :=
  if (σ 101 27) < z.2 then some (.inr z.1) else if (((x6 - x4) + 1) * ((z.2 - x5) + 1)) ≤ z.1 then f_X11_greatestRectangle_j110 x1 x2 z.1 x4 x5 x6 z.2 σ else chk (inb (3 + x1) 761) ((f_X11_isRectangle (σ 102 (3 + x1).toNatClampNeg) x2 x5 x4 z.2 x6 σ).bind fun q7 => if q7 = 0 then f_X11_greatestRectangle_j110 x1 x2 z.1 x4 x5 x6 z.2 σ else f_X11_greatestRectangle_j111 x1 x2 x4 x5 x6 z.2 (((x6 - x4) + 1) * ((z.2 - x5) + 1)) σ)
set_option maxHeartbeats 4000000 in
set_option maxRecDepth 100000 in
theorem w_X11_greatestRectangle_l49 (X : Cx g RX11 cX11_greatestRectangle 9 (some .int) p s m args meth c) (x1 : Int32) (x2 : Int32) (x4 : Int32) (x5 : Int32) (x6 : Int32) (σ : St) {r : Int32} (KX0 : ∀ (v : Int32), r = v → ∀ (H : Heap) (locs : List Loc) (ls : Array Slot), Wd g s σ H locs → lv_has ls 9 [(0, .ref (g.2.2 (101))), (1, .int (x1)), (2, .int (x2)), (3, .int (v)), (4, .int (x4)), (5, .int (x5)), (6, .int (x6))] → W p l e (rmm 2 51) s m args below meth c H locs 0 0 Q (F0 m 118 ls [])) : ∀ (n : Nat) (z : Int32 × Int32) {H : Heap} {locs : List Loc} {ls : Array Slot}, Wd g s σ H locs → lv_has ls 9 [(0, .ref (g.2.2 (101))), (1, .int (x1)), (2, .int (x2)), (3, .int (z.1)), (4, .int (x4)), (5, .int (x5)), (6, .int (x6)), (7, .int (z.2))] → lp (f_X11_greatestRectangle_l49 x1 x2 x4 x5 x6 σ) n z = some r → W p l e (rmm 2 51) s m args below meth c H locs 0 0 Q (F0 m 49 ls []) := by
  intro n
  induction n with
  | zero => intro z H locs ls Y hl h; cases h
  | succ n ih =>
    intro z H locs ls Y hl h
    obtain ⟨w, h, hw⟩ := lps h
    have KB : ∀ (v0_ : Int32) (v1_ : Int32), w = .inl (v0_, v1_) → ∀ (H : Heap) (locs : List Loc) (ls : Array Slot), Wd g s σ H locs → lv_has ls 9 [(0, .ref (g.2.2 (101))), (1, .int (x1)), (2, .int (x2)), (3, .int (v0_)), (4, .int (x4)), (5, .int (x5)), (6, .int (x6)), (7, .int (v1_))] → W p l e (rmm 2 51) s m args below meth c H locs 0 0 Q (F0 m 49 ls []) := fun v0_ v1_ e H locs ls Y hl => ih (v0_, v1_) Y hl (lpl hw e)
    have KX0 := fun (v : Int32) (e : w = .inr v) => KX0 v (lpr hw e)
    unfold f_X11_greatestRectangle_l49 at h
    refine lv_iload X.1 X.2.1 (dk T_X11_greatestRectangle 24 rfl) (lv_at hl 7 rfl) ?_
    refine lv_aload_n X.1 X.2.1 (dk T_X11_greatestRectangle 25 rfl) rfl (lv_at hl 0 rfl) ?_
    refine gg X Y fl_X11_267 rfl rfl (dk T_X11_greatestRectangle 26 rfl) ?_
    refine lv_icmp_gt (tgt := 118) X.1 X.2.1 (dk T_X11_greatestRectangle 27 rfl) rfl (fun c4 => ?_) (fun c4 => ?_)
    · replace h := ipos c4 h
      exact KX0 z.1 (Option.some.inj h).symm _ _ _ Y (lv_sub hl [0, 1, 2, 3, 4, 5, 6] rfl)
    · replace h := ineg c4 h
      refine lv_iload X.1 X.2.1 (dk T_X11_greatestRectangle 28 rfl) (lv_at hl 6 rfl) ?_
      refine lv_iload X.1 X.2.1 (dk T_X11_greatestRectangle 29 rfl) (lv_at hl 4 rfl) ?_
      refine lv_isub X.1 X.2.1 (dk T_X11_greatestRectangle 30 rfl) ?_
      refine lv_iconst (v := 1) X.1 X.2.1 (dk T_X11_greatestRectangle 31 rfl) ic_1 ?_
      refine lv_iadd X.1 X.2.1 (dk T_X11_greatestRectangle 32 rfl) ?_
      refine lv_iload X.1 X.2.1 (dk T_X11_greatestRectangle 33 rfl) (lv_at hl 7 rfl) ?_
      refine lv_iload X.1 X.2.1 (dk T_X11_greatestRectangle 34 rfl) (lv_at hl 5 rfl) ?_
      refine lv_isub X.1 X.2.1 (dk T_X11_greatestRectangle 35 rfl) ?_
      refine lv_iconst (v := 1) X.1 X.2.1 (dk T_X11_greatestRectangle 36 rfl) ic_1 ?_
      refine lv_iadd X.1 X.2.1 (dk T_X11_greatestRectangle 37 rfl) ?_
      refine lv_imul X.1 X.2.1 (dk T_X11_greatestRectangle 38 rfl) ?_
      refine lv_istore (lv' := [(8, .int (((x6 - x4) + 1) * ((z.2 - x5) + 1))), (0, .ref (g.2.2 (101))), (1, .int (x1)), (2, .int (x2)), (3, .int (z.1)), (4, .int (x4)), (5, .int (x5)), (6, .int (x6)), (7, .int (z.2))]) X.1 X.2.1 (dk T_X11_greatestRectangle 39 rfl) hl (Nat.le_of_ble_eq_true rfl) rfl (fun ls hl => ?_)
      refine lv_iload X.1 X.2.1 (dk T_X11_greatestRectangle 40 rfl) (lv_at hl 0 rfl) ?_
      refine lv_iload_n X.1 X.2.1 (dk T_X11_greatestRectangle 41 rfl) rfl (lv_at hl 4 rfl) ?_
      refine lv_icmp_le (tgt := 110) X.1 X.2.1 (dk T_X11_greatestRectangle 42 rfl) rfl (fun c5 => ?_) (fun c5 => ?_)
      · replace h := ipos c5 h
        exact w_X11_greatestRectangle_j110 X x1 x2 z.1 x4 x5 x6 z.2 σ KB KX0 Y (lv_sub hl [1, 2, 3, 4, 5, 6, 7, 8] rfl) h
      · replace h := ineg c5 h
        refine lv_aload_n X.1 X.2.1 (dk T_X11_greatestRectangle 43 rfl) rfl (lv_at hl 1 rfl) ?_
        refine lv_aload_n X.1 X.2.1 (dk T_X11_greatestRectangle 44 rfl) rfl (lv_at hl 1 rfl) ?_
        refine gg X Y fl_X11_7 rfl rfl (dk T_X11_greatestRectangle 45 rfl) ?_
        refine lv_iconst (v := 3) X.1 X.2.1 (dk T_X11_greatestRectangle 46 rfl) ic_3 ?_
        refine lv_iload_n X.1 X.2.1 (dk T_X11_greatestRectangle 47 rfl) rfl (lv_at hl 2 rfl) ?_
        refine lv_iadd X.1 X.2.1 (dk T_X11_greatestRectangle 48 rfl) ?_
        obtain ⟨g6, h⟩ := gd h
        refine gil X Y rfl (inp g6) (dk T_X11_greatestRectangle 49 rfl) ?_
        refine lv_iload_n X.1 X.2.1 (dk T_X11_greatestRectangle 50 rfl) rfl (lv_at hl 3 rfl) ?_
        refine lv_iload X.1 X.2.1 (dk T_X11_greatestRectangle 51 rfl) (lv_at hl 6 rfl) ?_
        refine lv_iload X.1 X.2.1 (dk T_X11_greatestRectangle 52 rfl) (lv_at hl 5 rfl) ?_
        refine lv_iload X.1 X.2.1 (dk T_X11_greatestRectangle 53 rfl) (lv_at hl 8 rfl) ?_
        refine lv_iload X.1 X.2.1 (dk T_X11_greatestRectangle 54 rfl) (lv_at hl 7 rfl) ?_
        obtain ⟨q7, hq7, h⟩ := bs h
        refine gvI (rest := []) X Y (c_X11_isRectangle (σ 102 (3 + x1).toNatClampNeg) x2 x5 x4 z.2 x6 σ hq7) cb_X11_279 rfl hl.1 rfl rfl (Nat.le_of_ble_eq_true rfl) ⟨Nat.le_of_ble_eq_true rfl, Nat.le_of_ble_eq_true rfl⟩ (dk T_X11_greatestRectangle 55 rfl) (fun H locs Y => ?_)
        refine lv_if_eq (tgt := 110) X.1 X.2.1 (dk T_X11_greatestRectangle 56 rfl) rfl (fun c8 => ?_) (fun c8 => ?_)
        · replace h := ipos c8 h
          exact w_X11_greatestRectangle_j110 X x1 x2 z.1 x4 x5 x6 z.2 σ KB KX0 Y (lv_sub hl [1, 2, 3, 4, 5, 6, 7, 8] rfl) h
        · replace h := ineg c8 h
          refine lv_iload X.1 X.2.1 (dk T_X11_greatestRectangle 57 rfl) (lv_at hl 0 rfl) ?_
          refine lv_goto (tgt := 111) X.1 X.2.1 (dk T_X11_greatestRectangle 58 rfl) rfl ?_
          exact w_X11_greatestRectangle_j111 X x1 x2 x4 x5 x6 z.2 (((x6 - x4) + 1) * ((z.2 - x5) + 1)) σ KB KX0 Y (lv_sub hl [1, 2, 3, 5, 6, 7, 8] rfl) h
def f_X11_greatestRectangle_l36 (x1 : Int32) (x2 : Int32) (x4 : Int32) (x5 : Int32) (σ : St) (z : Int32 × Int32) : Option ((Int32 × Int32) ⊕ (Int32)) :=
  if (σ 101 29) < z.2 then some (.inr z.1) else (lp (f_X11_greatestRectangle_l49 x1 x2 x4 x5 z.2 σ) FU (z.1, x5)).bind fun q9 => some (.inl (q9, z.2 + 1))
set_option maxHeartbeats 4000000 in
set_option maxRecDepth 100000 in
theorem w_X11_greatestRectangle_l36 (X : Cx g RX11 cX11_greatestRectangle 9 (some .int) p s m args meth c) (x1 : Int32) (x2 : Int32) (x4 : Int32) (x5 : Int32) (σ : St) {r : Int32} (KX0 : ∀ (v : Int32), r = v → ∀ (H : Heap) (locs : List Loc) (ls : Array Slot), Wd g s σ H locs → lv_has ls 9 [(0, .ref (g.2.2 (101))), (1, .int (x1)), (2, .int (x2)), (3, .int (v)), (4, .int (x4)), (5, .int (x5))] → W p l e (rmm 2 51) s m args below meth c H locs 0 0 Q (F0 m 124 ls [])) : ∀ (n : Nat) (z : Int32 × Int32) {H : Heap} {locs : List Loc} {ls : Array Slot}, Wd g s σ H locs → lv_has ls 9 [(0, .ref (g.2.2 (101))), (1, .int (x1)), (2, .int (x2)), (3, .int (z.1)), (4, .int (x4)), (5, .int (x5)), (6, .int (z.2))] → lp (f_X11_greatestRectangle_l36 x1 x2 x4 x5 σ) n z = some r → W p l e (rmm 2 51) s m args below meth c H locs 0 0 Q (F0 m 36 ls []) := by
  intro n
  induction n with
  | zero => intro z H locs ls Y hl h; cases h
  | succ n ih =>
    intro z H locs ls Y hl h
    obtain ⟨w, h, hw⟩ := lps h
    have KB : ∀ (v0_ : Int32) (v1_ : Int32), w = .inl (v0_, v1_) → ∀ (H : Heap) (locs : List Loc) (ls : Array Slot), Wd g s σ H locs → lv_has ls 9 [(0, .ref (g.2.2 (101))), (1, .int (x1)), (2, .int (x2)), (3, .int (v0_)), (4, .int (x4)), (5, .int (x5)), (6, .int (v1_))] → W p l e (rmm 2 51) s m args below meth c H locs 0 0 Q (F0 m 36 ls []) := fun v0_ v1_ e H locs ls Y hl => ih (v0_, v1_) Y hl (lpl hw e)
    have KX0 := fun (v : Int32) (e : w = .inr v) => KX0 v (lpr hw e)
    unfold f_X11_greatestRectangle_l36 at h
    refine lv_iload X.1 X.2.1 (dk T_X11_greatestRectangle 18 rfl) (lv_at hl 6 rfl) ?_
    refine lv_aload_n X.1 X.2.1 (dk T_X11_greatestRectangle 19 rfl) rfl (lv_at hl 0 rfl) ?_
    refine gg X Y fl_X11_273 rfl rfl (dk T_X11_greatestRectangle 20 rfl) ?_
    refine lv_icmp_gt (tgt := 124) X.1 X.2.1 (dk T_X11_greatestRectangle 21 rfl) rfl (fun c3 => ?_) (fun c3 => ?_)
    · replace h := ipos c3 h
      exact KX0 z.1 (Option.some.inj h).symm _ _ _ Y (lv_sub hl [0, 1, 2, 3, 4, 5] rfl)
    · replace h := ineg c3 h
      refine lv_iload X.1 X.2.1 (dk T_X11_greatestRectangle 22 rfl) (lv_at hl 5 rfl) ?_
      refine lv_istore (lv' := [(7, .int (x5)), (0, .ref (g.2.2 (101))), (1, .int (x1)), (2, .int (x2)), (3, .int (z.1)), (4, .int (x4)), (5, .int (x5)), (6, .int (z.2))]) X.1 X.2.1 (dk T_X11_greatestRectangle 23 rfl) hl (Nat.le_of_ble_eq_true rfl) rfl (fun ls hl => ?_)
      obtain ⟨q9, hq9, h⟩ := bs h
      refine w_X11_greatestRectangle_l49 X x1 x2 x4 x5 z.2 σ (fun v e H locs ls Y hl => ?_) FU (z.1, x5) Y (lv_sub hl [1, 2, 3, 4, 5, 6, 7, 0] rfl) hq9
      · obtain rfl := e
        refine lv_iinc (v := z.2 + 1) (lv' := [(6, .int (z.2 + 1)), (0, .ref (g.2.2 (101))), (1, .int (x1)), (2, .int (x2)), (3, .int (q9)), (4, .int (x4)), (5, .int (x5))]) X.1 X.2.1 (dk T_X11_greatestRectangle 63 rfl) hl (k := 6) rfl (icx ic_1) (Nat.le_of_ble_eq_true rfl) rfl (fun ls hl => ?_)
        refine lv_goto (tgt := 36) X.1 X.2.1 (dk T_X11_greatestRectangle 64 rfl) rfl ?_
        exact KB q9 (z.2 + 1) (Option.some.inj h).symm _ _ _ Y (lv_sub hl [1, 2, 3, 4, 5, 6, 0] rfl)
def f_X11_greatestRectangle_l23 (x1 : Int32) (x2 : Int32) (x4 : Int32) (σ : St) (z : Int32 × Int32) : Option ((Int32 × Int32) ⊕ (Int32)) :=
  if (σ 101 27) < z.2 then some (.inr z.1) else (lp (f_X11_greatestRectangle_l36 x1 x2 x4 z.2 σ) FU (z.1, x4)).bind fun q10 => some (.inl (q10, z.2 + 1))
set_option maxHeartbeats 4000000 in
set_option maxRecDepth 100000 in
theorem w_X11_greatestRectangle_l23 (X : Cx g RX11 cX11_greatestRectangle 9 (some .int) p s m args meth c) (x1 : Int32) (x2 : Int32) (x4 : Int32) (σ : St) {r : Int32} (KX0 : ∀ (v : Int32), r = v → ∀ (H : Heap) (locs : List Loc) (ls : Array Slot), Wd g s σ H locs → lv_has ls 9 [(0, .ref (g.2.2 (101))), (1, .int (x1)), (2, .int (x2)), (3, .int (v)), (4, .int (x4))] → W p l e (rmm 2 51) s m args below meth c H locs 0 0 Q (F0 m 130 ls [])) : ∀ (n : Nat) (z : Int32 × Int32) {H : Heap} {locs : List Loc} {ls : Array Slot}, Wd g s σ H locs → lv_has ls 9 [(0, .ref (g.2.2 (101))), (1, .int (x1)), (2, .int (x2)), (3, .int (z.1)), (4, .int (x4)), (5, .int (z.2))] → lp (f_X11_greatestRectangle_l23 x1 x2 x4 σ) n z = some r → W p l e (rmm 2 51) s m args below meth c H locs 0 0 Q (F0 m 23 ls []) := by
  intro n
  induction n with
  | zero => intro z H locs ls Y hl h; cases h
  | succ n ih =>
    intro z H locs ls Y hl h
    obtain ⟨w, h, hw⟩ := lps h
    have KB : ∀ (v0_ : Int32) (v1_ : Int32), w = .inl (v0_, v1_) → ∀ (H : Heap) (locs : List Loc) (ls : Array Slot), Wd g s σ H locs → lv_has ls 9 [(0, .ref (g.2.2 (101))), (1, .int (x1)), (2, .int (x2)), (3, .int (v0_)), (4, .int (x4)), (5, .int (v1_))] → W p l e (rmm 2 51) s m args below meth c H locs 0 0 Q (F0 m 23 ls []) := fun v0_ v1_ e H locs ls Y hl => ih (v0_, v1_) Y hl (lpl hw e)
    have KX0 := fun (v : Int32) (e : w = .inr v) => KX0 v (lpr hw e)
    unfold f_X11_greatestRectangle_l23 at h
    refine lv_iload X.1 X.2.1 (dk T_X11_greatestRectangle 12 rfl) (lv_at hl 5 rfl) ?_
    refine lv_aload_n X.1 X.2.1 (dk T_X11_greatestRectangle 13 rfl) rfl (lv_at hl 0 rfl) ?_
    refine gg X Y fl_X11_267 rfl rfl (dk T_X11_greatestRectangle 14 rfl) ?_
    refine lv_icmp_gt (tgt := 130) X.1 X.2.1 (dk T_X11_greatestRectangle 15 rfl) rfl (fun c2 => ?_) (fun c2 => ?_)
    · replace h := ipos c2 h
      exact KX0 z.1 (Option.some.inj h).symm _ _ _ Y (lv_sub hl [0, 1, 2, 3, 4] rfl)
    · replace h := ineg c2 h
      refine lv_iload X.1 X.2.1 (dk T_X11_greatestRectangle 16 rfl) (lv_at hl 4 rfl) ?_
      refine lv_istore (lv' := [(6, .int (x4)), (0, .ref (g.2.2 (101))), (1, .int (x1)), (2, .int (x2)), (3, .int (z.1)), (4, .int (x4)), (5, .int (z.2))]) X.1 X.2.1 (dk T_X11_greatestRectangle 17 rfl) hl (Nat.le_of_ble_eq_true rfl) rfl (fun ls hl => ?_)
      obtain ⟨q10, hq10, h⟩ := bs h
      refine w_X11_greatestRectangle_l36 X x1 x2 x4 z.2 σ (fun v e H locs ls Y hl => ?_) FU (z.1, x4) Y (lv_sub hl [1, 2, 3, 4, 5, 6, 0] rfl) hq10
      · obtain rfl := e
        refine lv_iinc (v := z.2 + 1) (lv' := [(5, .int (z.2 + 1)), (0, .ref (g.2.2 (101))), (1, .int (x1)), (2, .int (x2)), (3, .int (q10)), (4, .int (x4))]) X.1 X.2.1 (dk T_X11_greatestRectangle 65 rfl) hl (k := 5) rfl (icx ic_1) (Nat.le_of_ble_eq_true rfl) rfl (fun ls hl => ?_)
        refine lv_goto (tgt := 23) X.1 X.2.1 (dk T_X11_greatestRectangle 66 rfl) rfl ?_
        exact KB q10 (z.2 + 1) (Option.some.inj h).symm _ _ _ Y (lv_sub hl [1, 2, 3, 4, 5, 0] rfl)
def f_X11_greatestRectangle_l8 (x1 : Int32) (x2 : Int32) (σ : St) (z : Int32 × Int32) : Option ((Int32 × Int32) ⊕ (Int32)) :=
  if (σ 101 29) < z.2 then some (.inr z.1) else (lp (f_X11_greatestRectangle_l23 x1 x2 z.2 σ) FU (z.1, σ 101 26)).bind fun q11 => some (.inl (q11, z.2 + 1))
set_option maxHeartbeats 4000000 in
set_option maxRecDepth 100000 in
theorem w_X11_greatestRectangle_l8 (X : Cx g RX11 cX11_greatestRectangle 9 (some .int) p s m args meth c) (x1 : Int32) (x2 : Int32) (σ : St) {r : Int32} (KX0 : ∀ (v : Int32), r = v → ∀ (H : Heap) (locs : List Loc) (ls : Array Slot), Wd g s σ H locs → lv_has ls 9 [(3, .int (v))] → W p l e (rmm 2 51) s m args below meth c H locs 0 0 Q (F0 m 136 ls [])) : ∀ (n : Nat) (z : Int32 × Int32) {H : Heap} {locs : List Loc} {ls : Array Slot}, Wd g s σ H locs → lv_has ls 9 [(0, .ref (g.2.2 (101))), (1, .int (x1)), (2, .int (x2)), (3, .int (z.1)), (4, .int (z.2))] → lp (f_X11_greatestRectangle_l8 x1 x2 σ) n z = some r → W p l e (rmm 2 51) s m args below meth c H locs 0 0 Q (F0 m 8 ls []) := by
  intro n
  induction n with
  | zero => intro z H locs ls Y hl h; cases h
  | succ n ih =>
    intro z H locs ls Y hl h
    obtain ⟨w, h, hw⟩ := lps h
    have KB : ∀ (v0_ : Int32) (v1_ : Int32), w = .inl (v0_, v1_) → ∀ (H : Heap) (locs : List Loc) (ls : Array Slot), Wd g s σ H locs → lv_has ls 9 [(0, .ref (g.2.2 (101))), (1, .int (x1)), (2, .int (x2)), (3, .int (v0_)), (4, .int (v1_))] → W p l e (rmm 2 51) s m args below meth c H locs 0 0 Q (F0 m 8 ls []) := fun v0_ v1_ e H locs ls Y hl => ih (v0_, v1_) Y hl (lpl hw e)
    have KX0 := fun (v : Int32) (e : w = .inr v) => KX0 v (lpr hw e)
    unfold f_X11_greatestRectangle_l8 at h
    refine lv_iload X.1 X.2.1 (dk T_X11_greatestRectangle 5 rfl) (lv_at hl 4 rfl) ?_
    refine lv_aload_n X.1 X.2.1 (dk T_X11_greatestRectangle 6 rfl) rfl (lv_at hl 0 rfl) ?_
    refine gg X Y fl_X11_273 rfl rfl (dk T_X11_greatestRectangle 7 rfl) ?_
    refine lv_icmp_gt (tgt := 136) X.1 X.2.1 (dk T_X11_greatestRectangle 8 rfl) rfl (fun c1 => ?_) (fun c1 => ?_)
    · replace h := ipos c1 h
      exact KX0 z.1 (Option.some.inj h).symm _ _ _ Y (lv_sub hl [3] rfl)
    · replace h := ineg c1 h
      refine lv_aload_n X.1 X.2.1 (dk T_X11_greatestRectangle 9 rfl) rfl (lv_at hl 0 rfl) ?_
      refine gg X Y fl_X11_264 rfl rfl (dk T_X11_greatestRectangle 10 rfl) ?_
      refine lv_istore (lv' := [(5, .int (σ 101 26)), (0, .ref (g.2.2 (101))), (1, .int (x1)), (2, .int (x2)), (3, .int (z.1)), (4, .int (z.2))]) X.1 X.2.1 (dk T_X11_greatestRectangle 11 rfl) hl (Nat.le_of_ble_eq_true rfl) rfl (fun ls hl => ?_)
      obtain ⟨q11, hq11, h⟩ := bs h
      refine w_X11_greatestRectangle_l23 X x1 x2 z.2 σ (fun v e H locs ls Y hl => ?_) FU (z.1, σ 101 26) Y (lv_sub hl [1, 2, 3, 4, 5, 0] rfl) hq11
      · obtain rfl := e
        refine lv_iinc (v := z.2 + 1) (lv' := [(4, .int (z.2 + 1)), (0, .ref (g.2.2 (101))), (1, .int (x1)), (2, .int (x2)), (3, .int (q11))]) X.1 X.2.1 (dk T_X11_greatestRectangle 67 rfl) hl (k := 4) rfl (icx ic_1) (Nat.le_of_ble_eq_true rfl) rfl (fun ls hl => ?_)
        refine lv_goto (tgt := 8) X.1 X.2.1 (dk T_X11_greatestRectangle 68 rfl) rfl ?_
        exact KB q11 (z.2 + 1) (Option.some.inj h).symm _ _ _ Y (lv_sub hl [1, 2, 3, 4, 0] rfl)
def f_X11_greatestRectangle_0 (x1 : Int32) (x2 : Int32) (σ : St) : Option (Int32) :=
  (lp (f_X11_greatestRectangle_l8 x1 x2 σ) FU (0, σ 101 28)).bind fun q12 => some q12
set_option maxHeartbeats 4000000 in
set_option maxRecDepth 100000 in
theorem w_X11_greatestRectangle_0 (X : Cx g RX11 cX11_greatestRectangle 9 (some .int) p s m args meth c) (x1 : Int32) (x2 : Int32) (σ : St) {w : Int32} (KR : ∀ (H : Heap) (locs : List Loc) (ls : Array Slot) (pc : Nat), Wd g s σ H locs → decode cX11_greatestRectangle pc = .ok (.ireturn, 1) → W p l e (rmm 2 51) s m args below meth c H locs 0 0 Q (F0 m pc ls [.int (w)])) {H : Heap} {locs : List Loc} {ls : Array Slot} (Y : Wd g s σ H locs) (hl : lv_has ls 9 [(0, .ref (g.2.2 (101))), (1, .int (x1)), (2, .int (x2))]) (h : f_X11_greatestRectangle_0 x1 x2 σ = some w) : W p l e (rmm 2 51) s m args below meth c H locs 0 0 Q (F0 m 0 ls []) := by
  unfold f_X11_greatestRectangle_0 at h
  refine lv_iconst (v := 0) X.1 X.2.1 (dk T_X11_greatestRectangle 0 rfl) ic_0 ?_
  refine lv_istore_n (lv' := [(3, .int (0)), (0, .ref (g.2.2 (101))), (1, .int (x1)), (2, .int (x2))]) X.1 X.2.1 (dk T_X11_greatestRectangle 1 rfl) rfl hl (Nat.le_of_ble_eq_true rfl) rfl (fun ls hl => ?_)
  refine lv_aload_n X.1 X.2.1 (dk T_X11_greatestRectangle 2 rfl) rfl (lv_at hl 1 rfl) ?_
  refine gg X Y fl_X11_270 rfl rfl (dk T_X11_greatestRectangle 3 rfl) ?_
  refine lv_istore (lv' := [(4, .int (σ 101 28)), (3, .int (0)), (0, .ref (g.2.2 (101))), (1, .int (x1)), (2, .int (x2))]) X.1 X.2.1 (dk T_X11_greatestRectangle 4 rfl) hl (Nat.le_of_ble_eq_true rfl) rfl (fun ls hl => ?_)
  obtain ⟨q12, hq12, h⟩ := bs h
  refine w_X11_greatestRectangle_l8 X x1 x2 σ (fun v e H locs ls Y hl => ?_) FU (0, σ 101 28) Y (lv_sub hl [2, 3, 4, 1, 0] rfl) hq12
  · obtain rfl := e
    refine lv_iload_n X.1 X.2.1 (dk T_X11_greatestRectangle 69 rfl) rfl (lv_at hl 0 rfl) ?_
    obtain rfl := Option.some.inj h
    exact KR _ _ _ _ Y (dk T_X11_greatestRectangle 70 rfl)
def f_X11_greatestRectangle (x1 : Int32) (x2 : Int32) (σ : St) : Option (Int32) := f_X11_greatestRectangle_0 x1 x2 σ
set_option maxHeartbeats 4000000 in
set_option maxRecDepth 100000 in
theorem c_X11_greatestRectangle {l : Launch} {g : Geo} (x1 : Int32) (x2 : Int32) (σ : St) {w : Int32} (h : f_X11_greatestRectangle x1 x2 σ = some w) : CtI l yX11_greatestRectangle cX11_greatestRectangle 9 (some .int) (rmm 2 51) g [.ref (g.2.2 (101)), .int (x1), .int (x2)] σ w σ := enI .int (by decide) rfl rfl (Nat.le_of_ble_eq_true rfl) (fun p e s m args below meth c Q X Y ls hl KR => w_X11_greatestRectangle_0 X x1 x2 σ KR Y hl h)
def I_X11_remnant : List (Nat × Instr × Nat) := [(0, .aload_n 0, 1), (1, .iconst 0, 1), (2, .putfield 71, 3), (5, .aload_n 0, 1), (6, .iload_n 1, 1), (7, .invokevirtual 155, 3), (10, .ifCond .ne 9, 3), (13, .aload_n 0, 1), (14, .iconst 1, 1), (15, .invokevirtual 91, 3), (18, .ireturn, 1), (19, .aload_n 0, 1), (20, .iload_n 1, 1), (21, .invokevirtual 175, 3), (24, .iload_n 2, 1), (25, .iconst 0, 1), (26, .aload_n 0, 1), (27, .getfield 165, 3), (30, .iconst 1, 1), (31, .isub, 1), (32, .invokestatic 75, 3), (35, .ifCond .ne 9, 3), (38, .aload_n 0, 1), (39, .iconst 1, 1), (40, .invokevirtual 91, 3), (43, .ireturn, 1), (44, .aload_n 0, 1), (45, .iload_n 1, 1), (46, .iload_n 2, 1), (47, .invokevirtual 283, 3), (50, .iload_n 3, 1), (51, .tableswitch 75 0 4 #[33, 38, 44, 56, 68], 33), (84, .aload_n 0, 1), (85, .getfield 276, 3), (88, .ireturn, 1), (89, .aload_n 0, 1), (90, .iload_n 2, 1), (91, .invokevirtual 286, 3), (94, .ireturn, 1), (95, .aload_n 0, 1), (96, .getfield 267, 3), (99, .aload_n 0, 1), (100, .getfield 264, 3), (103, .isub, 1), (104, .iconst 1, 1), (105, .iadd, 1), (106, .ireturn, 1), (107, .aload_n 0, 1), (108, .getfield 273, 3), (111, .aload_n 0, 1), (112, .getfield 270, 3), (115, .isub, 1), (116, .iconst 1, 1), (117, .iadd, 1), (118, .ireturn, 1), (119, .aload_n 0, 1), (120, .iload_n 1, 1), (121, .iload_n 2, 1), (122, .invokevirtual 289, 3), (125, .ireturn, 1), (126, .aload_n 0, 1), (127, .iconst 2, 1), (128, .invokevirtual 91, 3), (131, .ireturn, 1)]
set_option maxRecDepth 100000 in
theorem T_X11_remnant : ∀ q ∈ I_X11_remnant, decode cX11_remnant q.1 = .ok (q.2.1, q.2.2) := by decide +kernel
def f_X11_remnant_0 (x1 : Int32) (x2 : Int32) (x3 : Int32) (σ : St) : Option (Int32 × St) :=
  (f_X11_isSheet x1 (up σ 101 0 0)).bind fun q1 => if q1 = 0 then (f_X11_fails 1 (up σ 101 0 0)).bind fun q16 => some (q16.1, q16.2) else (f_X11_remnants x1 (up σ 101 0 0)).bind fun q3 => (f_X11_in x2 0 ((q3 101 17) - 1)).bind fun q4 => if q4 = 0 then (f_X11_fails 1 q3).bind fun q15 => some (q15.1, q15.2) else (f_X11_bounds x1 x2 q3).bind fun q6 => if x3 = 0 then some (q6 101 30, q6) else if x3 = 1 then (f_X11_lowestOf x2 q6).bind fun q9 => some (q9, q6) else if x3 = 2 then some (((q6 101 27) - (q6 101 26)) + 1, q6) else if x3 = 3 then some (((q6 101 29) - (q6 101 28)) + 1, q6) else if x3 = 4 then (f_X11_greatestRectangle x1 x2 q6).bind fun q13 => some (q13, q6) else (f_X11_fails 2 q6).bind fun q14 => some (q14.1, q14.2)
set_option maxHeartbeats 4000000 in
set_option maxRecDepth 100000 in
theorem w_X11_remnant_0 (X : Cx g RX11 cX11_remnant 4 (some .int) p s m args meth c) (x1 : Int32) (x2 : Int32) (x3 : Int32) (σ : St) {w : Int32 × St} (KR : ∀ (H : Heap) (locs : List Loc) (ls : Array Slot) (pc : Nat), Wd g s w.2 H locs → decode cX11_remnant pc = .ok (.ireturn, 1) → W p l e (rmm 5 117) s m args below meth c H locs 0 0 Q (F0 m pc ls [.int (w.1)])) {H : Heap} {locs : List Loc} {ls : Array Slot} (Y : Wd g s σ H locs) (hl : lv_has ls 4 [(0, .ref (g.2.2 (101))), (1, .int (x1)), (2, .int (x2)), (3, .int (x3))]) (h : f_X11_remnant_0 x1 x2 x3 σ = some w) : W p l e (rmm 5 117) s m args below meth c H locs 0 0 Q (F0 m 0 ls []) := by
  unfold f_X11_remnant_0 at h
  refine lv_aload_n X.1 X.2.1 (dk T_X11_remnant 0 rfl) rfl (lv_at hl 0 rfl) ?_
  refine lv_iconst (v := 0) X.1 X.2.1 (dk T_X11_remnant 1 rfl) ic_0 ?_
  refine gp X Y fp_X11_71 rfl (nar_int _) (dk T_X11_remnant 2 rfl) (fun H locs Y => ?_)
  refine lv_aload_n X.1 X.2.1 (dk T_X11_remnant 3 rfl) rfl (lv_at hl 0 rfl) ?_
  refine lv_iload_n X.1 X.2.1 (dk T_X11_remnant 4 rfl) rfl (lv_at hl 1 rfl) ?_
  obtain ⟨q1, hq1, h⟩ := bs h
  refine gvI (rest := []) X Y (c_X11_isSheet x1 (up σ 101 0 0) hq1) cb_X11_155 rfl hl.1 rfl rfl (Nat.le_of_ble_eq_true rfl) ⟨Nat.le_of_ble_eq_true rfl, Nat.le_of_ble_eq_true rfl⟩ (dk T_X11_remnant 5 rfl) (fun H locs Y => ?_)
  refine lv_if_ne (tgt := 19) X.1 X.2.1 (dk T_X11_remnant 6 rfl) rfl (fun c2 => ?_) (fun c2 => ?_)
  · replace h := ineg c2 h
    refine lv_aload_n X.1 X.2.1 (dk T_X11_remnant 11 rfl) rfl (lv_at hl 0 rfl) ?_
    refine lv_iload_n X.1 X.2.1 (dk T_X11_remnant 12 rfl) rfl (lv_at hl 1 rfl) ?_
    obtain ⟨q3, hq3, h⟩ := bs h
    refine gvV (rest := []) X Y (c_X11_remnants x1 (up σ 101 0 0) hq3) cb_X11_175 rfl hl.1 rfl rfl (Nat.le_of_ble_eq_true rfl) ⟨Nat.le_of_ble_eq_true rfl, Nat.le_of_ble_eq_true rfl⟩ (dk T_X11_remnant 13 rfl) (fun H locs Y => ?_)
    refine lv_iload_n X.1 X.2.1 (dk T_X11_remnant 14 rfl) rfl (lv_at hl 2 rfl) ?_
    refine lv_iconst (v := 0) X.1 X.2.1 (dk T_X11_remnant 15 rfl) ic_0 ?_
    refine lv_aload_n X.1 X.2.1 (dk T_X11_remnant 16 rfl) rfl (lv_at hl 0 rfl) ?_
    refine gg X Y fl_X11_165 rfl rfl (dk T_X11_remnant 17 rfl) ?_
    refine lv_iconst (v := 1) X.1 X.2.1 (dk T_X11_remnant 18 rfl) ic_1 ?_
    refine lv_isub X.1 X.2.1 (dk T_X11_remnant 19 rfl) ?_
    obtain ⟨q4, hq4, h⟩ := bs h
    refine gsI (rest := []) X Y (c_X11_in x2 0 ((q3 101 17) - 1) q3 hq4) cb_X11_75 hl.1 rfl rfl (Nat.le_of_ble_eq_true rfl) ⟨Nat.le_of_ble_eq_true rfl, Nat.le_of_ble_eq_true rfl⟩ (dk T_X11_remnant 20 rfl) (fun H locs Y => ?_)
    refine lv_if_ne (tgt := 44) X.1 X.2.1 (dk T_X11_remnant 21 rfl) rfl (fun c5 => ?_) (fun c5 => ?_)
    · replace h := ineg c5 h
      refine lv_aload_n X.1 X.2.1 (dk T_X11_remnant 26 rfl) rfl (lv_at hl 0 rfl) ?_
      refine lv_iload_n X.1 X.2.1 (dk T_X11_remnant 27 rfl) rfl (lv_at hl 1 rfl) ?_
      refine lv_iload_n X.1 X.2.1 (dk T_X11_remnant 28 rfl) rfl (lv_at hl 2 rfl) ?_
      obtain ⟨q6, hq6, h⟩ := bs h
      refine gvV (rest := []) X Y (c_X11_bounds x1 x2 q3 hq6) cb_X11_283 rfl hl.1 rfl rfl (Nat.le_of_ble_eq_true rfl) ⟨Nat.le_of_ble_eq_true rfl, Nat.le_of_ble_eq_true rfl⟩ (dk T_X11_remnant 29 rfl) (fun H locs Y => ?_)
      refine lv_iload_n X.1 X.2.1 (dk T_X11_remnant 30 rfl) rfl (lv_at hl 3 rfl) ?_
      rcases Decidable.em (x3 = 0) with c7 | c7
      · replace h := ipos c7 h
        refine lv_tableIn (tgt := 84) (off := 33) X.1 X.2.1 (dk T_X11_remnant 31 rfl) (ts1 c7 (by decide)) (ts2 c7 (by decide)) (ts3 c7 (by decide)) rfl ?_
        refine lv_aload_n X.1 X.2.1 (dk T_X11_remnant 32 rfl) rfl (lv_at hl 0 rfl) ?_
        refine gg X Y fl_X11_276 rfl rfl (dk T_X11_remnant 33 rfl) ?_
        obtain rfl := Option.some.inj h
        exact KR _ _ _ _ Y (dk T_X11_remnant 34 rfl)
      replace h := ineg c7 h
      rcases Decidable.em (x3 = 1) with c8 | c8
      · replace h := ipos c8 h
        refine lv_tableIn (tgt := 89) (off := 38) X.1 X.2.1 (dk T_X11_remnant 31 rfl) (ts1 c8 (by decide)) (ts2 c8 (by decide)) (ts3 c8 (by decide)) rfl ?_
        refine lv_aload_n X.1 X.2.1 (dk T_X11_remnant 35 rfl) rfl (lv_at hl 0 rfl) ?_
        refine lv_iload_n X.1 X.2.1 (dk T_X11_remnant 36 rfl) rfl (lv_at hl 2 rfl) ?_
        obtain ⟨q9, hq9, h⟩ := bs h
        refine gvI (rest := []) X Y (c_X11_lowestOf x2 q6 hq9) cb_X11_286 rfl hl.1 rfl rfl (Nat.le_of_ble_eq_true rfl) ⟨Nat.le_of_ble_eq_true rfl, Nat.le_of_ble_eq_true rfl⟩ (dk T_X11_remnant 37 rfl) (fun H locs Y => ?_)
        obtain rfl := Option.some.inj h
        exact KR _ _ _ _ Y (dk T_X11_remnant 38 rfl)
      replace h := ineg c8 h
      rcases Decidable.em (x3 = 2) with c10 | c10
      · replace h := ipos c10 h
        refine lv_tableIn (tgt := 95) (off := 44) X.1 X.2.1 (dk T_X11_remnant 31 rfl) (ts1 c10 (by decide)) (ts2 c10 (by decide)) (ts3 c10 (by decide)) rfl ?_
        refine lv_aload_n X.1 X.2.1 (dk T_X11_remnant 39 rfl) rfl (lv_at hl 0 rfl) ?_
        refine gg X Y fl_X11_267 rfl rfl (dk T_X11_remnant 40 rfl) ?_
        refine lv_aload_n X.1 X.2.1 (dk T_X11_remnant 41 rfl) rfl (lv_at hl 0 rfl) ?_
        refine gg X Y fl_X11_264 rfl rfl (dk T_X11_remnant 42 rfl) ?_
        refine lv_isub X.1 X.2.1 (dk T_X11_remnant 43 rfl) ?_
        refine lv_iconst (v := 1) X.1 X.2.1 (dk T_X11_remnant 44 rfl) ic_1 ?_
        refine lv_iadd X.1 X.2.1 (dk T_X11_remnant 45 rfl) ?_
        obtain rfl := Option.some.inj h
        exact KR _ _ _ _ Y (dk T_X11_remnant 46 rfl)
      replace h := ineg c10 h
      rcases Decidable.em (x3 = 3) with c11 | c11
      · replace h := ipos c11 h
        refine lv_tableIn (tgt := 107) (off := 56) X.1 X.2.1 (dk T_X11_remnant 31 rfl) (ts1 c11 (by decide)) (ts2 c11 (by decide)) (ts3 c11 (by decide)) rfl ?_
        refine lv_aload_n X.1 X.2.1 (dk T_X11_remnant 47 rfl) rfl (lv_at hl 0 rfl) ?_
        refine gg X Y fl_X11_273 rfl rfl (dk T_X11_remnant 48 rfl) ?_
        refine lv_aload_n X.1 X.2.1 (dk T_X11_remnant 49 rfl) rfl (lv_at hl 0 rfl) ?_
        refine gg X Y fl_X11_270 rfl rfl (dk T_X11_remnant 50 rfl) ?_
        refine lv_isub X.1 X.2.1 (dk T_X11_remnant 51 rfl) ?_
        refine lv_iconst (v := 1) X.1 X.2.1 (dk T_X11_remnant 52 rfl) ic_1 ?_
        refine lv_iadd X.1 X.2.1 (dk T_X11_remnant 53 rfl) ?_
        obtain rfl := Option.some.inj h
        exact KR _ _ _ _ Y (dk T_X11_remnant 54 rfl)
      replace h := ineg c11 h
      rcases Decidable.em (x3 = 4) with c12 | c12
      · replace h := ipos c12 h
        refine lv_tableIn (tgt := 119) (off := 68) X.1 X.2.1 (dk T_X11_remnant 31 rfl) (ts1 c12 (by decide)) (ts2 c12 (by decide)) (ts3 c12 (by decide)) rfl ?_
        refine lv_aload_n X.1 X.2.1 (dk T_X11_remnant 55 rfl) rfl (lv_at hl 0 rfl) ?_
        refine lv_iload_n X.1 X.2.1 (dk T_X11_remnant 56 rfl) rfl (lv_at hl 1 rfl) ?_
        refine lv_iload_n X.1 X.2.1 (dk T_X11_remnant 57 rfl) rfl (lv_at hl 2 rfl) ?_
        obtain ⟨q13, hq13, h⟩ := bs h
        refine gvI (rest := []) X Y (c_X11_greatestRectangle x1 x2 q6 hq13) cb_X11_289 rfl hl.1 rfl rfl (Nat.le_of_ble_eq_true rfl) ⟨Nat.le_of_ble_eq_true rfl, Nat.le_of_ble_eq_true rfl⟩ (dk T_X11_remnant 58 rfl) (fun H locs Y => ?_)
        obtain rfl := Option.some.inj h
        exact KR _ _ _ _ Y (dk T_X11_remnant 59 rfl)
      replace h := ineg c12 h
      refine lv_tableOut (tgt := 126) X.1 X.2.1 (dk T_X11_remnant 31 rfl) (ts5n c7 c8 c10 c11 c12) rfl ?_
      refine lv_aload_n X.1 X.2.1 (dk T_X11_remnant 60 rfl) rfl (lv_at hl 0 rfl) ?_
      refine lv_iconst (v := 2) X.1 X.2.1 (dk T_X11_remnant 61 rfl) ic_2 ?_
      obtain ⟨q14, hq14, h⟩ := bs h
      refine gvI (rest := []) X Y (c_X11_fails 2 q6 hq14) cb_X11_91 rfl hl.1 rfl rfl (Nat.le_of_ble_eq_true rfl) ⟨Nat.le_of_ble_eq_true rfl, Nat.le_of_ble_eq_true rfl⟩ (dk T_X11_remnant 62 rfl) (fun H locs Y => ?_)
      obtain rfl := Option.some.inj h
      exact KR _ _ _ _ Y (dk T_X11_remnant 63 rfl)
    · replace h := ipos c5 h
      refine lv_aload_n X.1 X.2.1 (dk T_X11_remnant 22 rfl) rfl (lv_at hl 0 rfl) ?_
      refine lv_iconst (v := 1) X.1 X.2.1 (dk T_X11_remnant 23 rfl) ic_1 ?_
      obtain ⟨q15, hq15, h⟩ := bs h
      refine gvI (rest := []) X Y (c_X11_fails 1 q3 hq15) cb_X11_91 rfl hl.1 rfl rfl (Nat.le_of_ble_eq_true rfl) ⟨Nat.le_of_ble_eq_true rfl, Nat.le_of_ble_eq_true rfl⟩ (dk T_X11_remnant 24 rfl) (fun H locs Y => ?_)
      obtain rfl := Option.some.inj h
      exact KR _ _ _ _ Y (dk T_X11_remnant 25 rfl)
  · replace h := ipos c2 h
    refine lv_aload_n X.1 X.2.1 (dk T_X11_remnant 7 rfl) rfl (lv_at hl 0 rfl) ?_
    refine lv_iconst (v := 1) X.1 X.2.1 (dk T_X11_remnant 8 rfl) ic_1 ?_
    obtain ⟨q16, hq16, h⟩ := bs h
    refine gvI (rest := []) X Y (c_X11_fails 1 (up σ 101 0 0) hq16) cb_X11_91 rfl hl.1 rfl rfl (Nat.le_of_ble_eq_true rfl) ⟨Nat.le_of_ble_eq_true rfl, Nat.le_of_ble_eq_true rfl⟩ (dk T_X11_remnant 9 rfl) (fun H locs Y => ?_)
    obtain rfl := Option.some.inj h
    exact KR _ _ _ _ Y (dk T_X11_remnant 10 rfl)
def f_X11_remnant (x1 : Int32) (x2 : Int32) (x3 : Int32) (σ : St) : Option (Int32 × St) := f_X11_remnant_0 x1 x2 x3 σ
set_option maxHeartbeats 4000000 in
set_option maxRecDepth 100000 in
theorem c_X11_remnant {l : Launch} {g : Geo} (x1 : Int32) (x2 : Int32) (x3 : Int32) (σ : St) {w : Int32 × St} (h : f_X11_remnant x1 x2 x3 σ = some w) : CtI l yX11_remnant cX11_remnant 4 (some .int) (rmm 5 117) g [.ref (g.2.2 (101)), .int (x1), .int (x2), .int (x3)] σ w.1 w.2 := enI .int (by decide) rfl rfl (Nat.le_of_ble_eq_true rfl) (fun p e s m args below meth c Q X Y ls hl KR => w_X11_remnant_0 X x1 x2 x3 σ KR Y hl h)
def I_X11_keep : List (Nat × Instr × Nat) := [(0, .aload_n 0, 1), (1, .iconst 0, 1), (2, .putfield 71, 3), (5, .aload_n 0, 1), (6, .iload_n 1, 1), (7, .invokevirtual 155, 3), (10, .ifCond .ne 9, 3), (13, .aload_n 0, 1), (14, .iconst 1, 1), (15, .invokevirtual 91, 3), (18, .ireturn, 1), (19, .aload_n 0, 1), (20, .iload_n 1, 1), (21, .invokevirtual 175, 3), (24, .iload_n 2, 1), (25, .iconst 0, 1), (26, .aload_n 0, 1), (27, .getfield 165, 3), (30, .iconst 1, 1), (31, .isub, 1), (32, .invokestatic 75, 3), (35, .ifCond .ne 9, 3), (38, .aload_n 0, 1), (39, .iconst 1, 1), (40, .invokevirtual 91, 3), (43, .ireturn, 1), (44, .aload_n 0, 1), (45, .getfield 7, 3), (48, .iconst 0, 1), (49, .iaload, 1), (50, .bipush 6, 2), (52, .if_icmp .ne 9, 3), (55, .aload_n 0, 1), (56, .iconst 2, 1), (57, .invokevirtual 91, 3), (60, .ireturn, 1), (61, .aload_n 0, 1), (62, .invokevirtual 95, 3), (65, .aload_n 0, 1), (66, .iload_n 1, 1), (67, .iload_n 2, 1), (68, .invokevirtual 283, 3), (71, .aload_n 0, 1), (72, .getfield 267, 3), (75, .aload_n 0, 1), (76, .getfield 264, 3), (79, .isub, 1), (80, .iconst 1, 1), (81, .iadd, 1), (82, .istore_n 3, 1), (83, .aload_n 0, 1), (84, .getfield 273, 3), (87, .aload_n 0, 1), (88, .getfield 270, 3), (91, .isub, 1), (92, .iconst 1, 1), (93, .iadd, 1), (94, .istore 4, 2), (96, .aload_n 0, 1), (97, .iload_n 3, 1), (98, .iconst 2, 1), (99, .if_icmp .ge 7, 3), (102, .iconst 2, 1), (103, .goto 4, 3), (106, .iload_n 3, 1), (107, .iload 4, 2), (109, .iconst 2, 1), (110, .if_icmp .ge 7, 3), (113, .iconst 2, 1), (114, .goto 5, 3), (117, .iload 4, 2), (119, .aload_n 0, 1), (120, .getfield 7, 3), (123, .bipush 15, 2), (125, .iload_n 1, 1), (126, .iadd, 1), (127, .iaload, 1), (128, .invokevirtual 98, 3), (131, .istore 5, 2), (133, .iconst 0, 1), (134, .istore 6, 2), (136, .iload 6, 2), (138, .bipush 100, 2), (140, .if_icmp .ge 26, 3), (143, .aload_n 0, 1), (144, .getfield 7, 3), (147, .bipush 21, 2), (149, .bipush 100, 2), (151, .iload 5, 2), (153, .imul, 1), (154, .iadd, 1), (155, .iload 6, 2), (157, .iadd, 1), (158, .iconst 0, 1), (159, .iastore, 1), (160, .iinc 6 1, 3), (163, .goto (-27), 3), (166, .iconst 0, 1), (167, .istore 6, 2), (169, .iload 6, 2), (171, .aload_n 0, 1), (172, .iload_n 1, 1), (173, .invokevirtual 149, 3), (176, .if_icmp .ge 103, 3), (179, .aload_n 0, 1), (180, .getfield 40, 3), (183, .iload 6, 2), (185, .iaload, 1), (186, .iload_n 2, 1), (187, .if_icmp .ne 86, 3), (190, .iload 6, 2), (192, .aload_n 0, 1), (193, .getfield 7, 3), (196, .iconst 3, 1), (197, .iload_n 1, 1), (198, .iadd, 1), (199, .iaload, 1), (200, .irem, 1), (201, .aload_n 0, 1), (202, .getfield 264, 3), (205, .isub, 1), (206, .istore 7, 2), (208, .iload 6, 2), (210, .aload_n 0, 1), (211, .getfield 7, 3), (214, .iconst 3, 1), (215, .iload_n 1, 1), (216, .iadd, 1), (217, .iaload, 1), (218, .idiv, 1), (219, .aload_n 0, 1), (220, .getfield 270, 3), (223, .isub, 1), (224, .istore 8, 2), (226, .aload_n 0, 1), (227, .getfield 7, 3), (230, .bipush 21, 2), (232, .bipush 100, 2), (234, .iload 5, 2), (236, .imul, 1), (237, .iadd, 1), (238, .aload_n 0, 1), (239, .getfield 7, 3), (242, .iconst 3, 1), (243, .iload 5, 2), (245, .iadd, 1), (246, .iaload, 1), (247, .iload 7, 2), (249, .iload 8, 2), (251, .invokestatic 102, 3), (254, .iadd, 1), (255, .iconst 1, 1), (256, .iastore, 1), (257, .aload_n 0, 1), (258, .getfield 7, 3), (261, .bipush 21, 2), (263, .bipush 100, 2), (265, .iload_n 1, 1), (266, .imul, 1), (267, .iadd, 1), (268, .iload 6, 2), (270, .iadd, 1), (271, .iconst 0, 1), (272, .iastore, 1), (273, .iinc 6 1, 3), (276, .goto (-107), 3), (279, .iload 5, 2), (281, .ireturn, 1)]
set_option maxRecDepth 100000 in
theorem T_X11_keep : ∀ q ∈ I_X11_keep, decode cX11_keep q.1 = .ok (q.2.1, q.2.2) := by decide +kernel
def f_X11_keep_l136 (x1 : Int32) (x2 : Int32) (x5 : Int32) (z : Int32 × St) : Option ((Int32 × St) ⊕ (St)) :=
  if 100 ≤ z.1 then some (.inr z.2) else chk (inb ((21 + (100 * x5)) + z.1) 761) (some (.inl (z.1 + 1, up z.2 102 ((21 + (100 * x5)) + z.1).toNatClampNeg 0)))
set_option maxHeartbeats 4000000 in
set_option maxRecDepth 100000 in
theorem w_X11_keep_l136 (X : Cx g RX11 cX11_keep 9 (some .int) p s m args meth c) (x1 : Int32) (x2 : Int32) (x5 : Int32) (σ : St) {r : St} (KX0 : ∀ (v : St), r = v → ∀ (H : Heap) (locs : List Loc) (ls : Array Slot), Wd g s v H locs → lv_has ls 9 [(0, .ref (g.2.2 (101))), (1, .int (x1)), (2, .int (x2)), (5, .int (x5))] → W p l e (rmm 5 117) s m args below meth c H locs 0 0 Q (F0 m 166 ls [])) : ∀ (n : Nat) (z : Int32 × St) {H : Heap} {locs : List Loc} {ls : Array Slot}, Wd g s z.2 H locs → lv_has ls 9 [(0, .ref (g.2.2 (101))), (1, .int (x1)), (2, .int (x2)), (5, .int (x5)), (6, .int (z.1))] → lp (f_X11_keep_l136 x1 x2 x5) n z = some r → W p l e (rmm 5 117) s m args below meth c H locs 0 0 Q (F0 m 136 ls []) := by
  intro n
  induction n with
  | zero => intro z H locs ls Y hl h; cases h
  | succ n ih =>
    intro z H locs ls Y hl h
    obtain ⟨w, h, hw⟩ := lps h
    have KB : ∀ (v0_ : Int32) (v1_ : St), w = .inl (v0_, v1_) → ∀ (H : Heap) (locs : List Loc) (ls : Array Slot), Wd g s v1_ H locs → lv_has ls 9 [(0, .ref (g.2.2 (101))), (1, .int (x1)), (2, .int (x2)), (5, .int (x5)), (6, .int (v0_))] → W p l e (rmm 5 117) s m args below meth c H locs 0 0 Q (F0 m 136 ls []) := fun v0_ v1_ e H locs ls Y hl => ih (v0_, v1_) Y hl (lpl hw e)
    have KX0 := fun (v : St) (e : w = .inr v) => KX0 v (lpr hw e)
    unfold f_X11_keep_l136 at h
    refine lv_iload X.1 X.2.1 (dk T_X11_keep 81 rfl) (lv_at hl 4 rfl) ?_
    refine lv_bipush (v := 100) X.1 X.2.1 (dk T_X11_keep 82 rfl) bp_100 ?_
    refine lv_icmp_ge (tgt := 166) X.1 X.2.1 (dk T_X11_keep 83 rfl) rfl (fun c14 => ?_) (fun c14 => ?_)
    · replace h := ipos c14 h
      exact KX0 z.2 (Option.some.inj h).symm _ _ _ Y (lv_sub hl [0, 1, 2, 3] rfl)
    · replace h := ineg c14 h
      refine lv_aload_n X.1 X.2.1 (dk T_X11_keep 84 rfl) rfl (lv_at hl 0 rfl) ?_
      refine gg X Y fl_X11_7 rfl rfl (dk T_X11_keep 85 rfl) ?_
      refine lv_bipush (v := 21) X.1 X.2.1 (dk T_X11_keep 86 rfl) bp_21 ?_
      refine lv_bipush (v := 100) X.1 X.2.1 (dk T_X11_keep 87 rfl) bp_100 ?_
      refine lv_iload X.1 X.2.1 (dk T_X11_keep 88 rfl) (lv_at hl 3 rfl) ?_
      refine lv_imul X.1 X.2.1 (dk T_X11_keep 89 rfl) ?_
      refine lv_iadd X.1 X.2.1 (dk T_X11_keep 90 rfl) ?_
      refine lv_iload X.1 X.2.1 (dk T_X11_keep 91 rfl) (lv_at hl 4 rfl) ?_
      refine lv_iadd X.1 X.2.1 (dk T_X11_keep 92 rfl) ?_
      refine lv_iconst (v := 0) X.1 X.2.1 (dk T_X11_keep 93 rfl) ic_0 ?_
      obtain ⟨g15, h⟩ := gd h
      refine gis X Y rfl (inp g15) (dk T_X11_keep 94 rfl) (fun H locs Y => ?_)
      refine lv_iinc (v := z.1 + 1) (lv' := [(6, .int (z.1 + 1)), (0, .ref (g.2.2 (101))), (1, .int (x1)), (2, .int (x2)), (5, .int (x5))]) X.1 X.2.1 (dk T_X11_keep 95 rfl) hl (k := 4) rfl (icx ic_1) (Nat.le_of_ble_eq_true rfl) rfl (fun ls hl => ?_)
      refine lv_goto (tgt := 136) X.1 X.2.1 (dk T_X11_keep 96 rfl) rfl ?_
      exact KB (z.1 + 1) (up z.2 102 ((21 + (100 * x5)) + z.1).toNatClampNeg 0) (Option.some.inj h).symm _ _ _ Y (lv_sub hl [1, 2, 3, 4, 0] rfl)
def f_X11_keep_j273 (x1 : Int32) (x2 : Int32) (x5 : Int32) (x6 : Int32) (σ : St) : Option ((Int32 × St) ⊕ (St)) :=
  some (.inl (x6 + 1, σ))
set_option maxHeartbeats 4000000 in
set_option maxRecDepth 100000 in
theorem w_X11_keep_j273 (X : Cx g RX11 cX11_keep 9 (some .int) p s m args meth c) (x1 : Int32) (x2 : Int32) (x5 : Int32) (x6 : Int32) (σ : St) {w : (Int32 × St) ⊕ (St)} (KB : ∀ (v0_ : Int32) (v1_ : St), w = .inl (v0_, v1_) → ∀ (H : Heap) (locs : List Loc) (ls : Array Slot), Wd g s v1_ H locs → lv_has ls 9 [(0, .ref (g.2.2 (101))), (1, .int (x1)), (2, .int (x2)), (5, .int (x5)), (6, .int (v0_))] → W p l e (rmm 5 117) s m args below meth c H locs 0 0 Q (F0 m 169 ls [])) (KX0 : ∀ (v : St), w = .inr v → ∀ (H : Heap) (locs : List Loc) (ls : Array Slot), Wd g s v H locs → lv_has ls 9 [(5, .int (x5))] → W p l e (rmm 5 117) s m args below meth c H locs 0 0 Q (F0 m 279 ls [])) {H : Heap} {locs : List Loc} {ls : Array Slot} (Y : Wd g s σ H locs) (hl : lv_has ls 9 [(0, .ref (g.2.2 (101))), (1, .int (x1)), (2, .int (x2)), (5, .int (x5)), (6, .int (x6))]) (h : f_X11_keep_j273 x1 x2 x5 x6 σ = some w) : W p l e (rmm 5 117) s m args below meth c H locs 0 0 Q (F0 m 273 ls []) := by
  unfold f_X11_keep_j273 at h
  refine lv_iinc (v := x6 + 1) (lv' := [(6, .int (x6 + 1)), (0, .ref (g.2.2 (101))), (1, .int (x1)), (2, .int (x2)), (5, .int (x5))]) X.1 X.2.1 (dk T_X11_keep 164 rfl) hl (k := 4) rfl (icx ic_1) (Nat.le_of_ble_eq_true rfl) rfl (fun ls hl => ?_)
  refine lv_goto (tgt := 169) X.1 X.2.1 (dk T_X11_keep 165 rfl) rfl ?_
  exact KB (x6 + 1) σ (Option.some.inj h).symm _ _ _ Y (lv_sub hl [1, 2, 3, 4, 0] rfl)
def f_X11_keep_l169 (x1 : Int32) (x2 : Int32) (x5 : Int32) (z : Int32 × St) : Option ((Int32 × St) ⊕ (St)) :=
  (f_X11_cells x1 z.2).bind fun q17 => if q17 ≤ z.1 then some (.inr z.2) else chk (inb z.1 100) (if (z.2 112 z.1.toNatClampNeg) = x2 then chk (inb (3 + x1) 761) (chk (nz (z.2 102 (3 + x1).toNatClampNeg)) (chk (inb (3 + x1) 761) (chk (nz (z.2 102 (3 + x1).toNatClampNeg)) (chk (inb (3 + x5) 761) ((f_X11_at (z.2 102 (3 + x5).toNatClampNeg) ((z.1 - z.1 / (z.2 102 (3 + x1).toNatClampNeg) * (z.2 102 (3 + x1).toNatClampNeg)) - (z.2 101 26)) ((z.1 / (z.2 102 (3 + x1).toNatClampNeg)) - (z.2 101 28))).bind fun q26 => chk (inb ((21 + (100 * x5)) + q26) 761) (chk (inb ((21 + (100 * x1)) + z.1) 761) (f_X11_keep_j273 x1 x2 x5 z.1 (up (up z.2 102 ((21 + (100 * x5)) + q26).toNatClampNeg 1) 102 ((21 + (100 * x1)) + z.1).toNatClampNeg 0)))))))) else f_X11_keep_j273 x1 x2 x5 z.1 z.2)
set_option maxHeartbeats 4000000 in
set_option maxRecDepth 100000 in
theorem w_X11_keep_l169 (X : Cx g RX11 cX11_keep 9 (some .int) p s m args meth c) (x1 : Int32) (x2 : Int32) (x5 : Int32) (σ : St) {r : St} (KX0 : ∀ (v : St), r = v → ∀ (H : Heap) (locs : List Loc) (ls : Array Slot), Wd g s v H locs → lv_has ls 9 [(5, .int (x5))] → W p l e (rmm 5 117) s m args below meth c H locs 0 0 Q (F0 m 279 ls [])) : ∀ (n : Nat) (z : Int32 × St) {H : Heap} {locs : List Loc} {ls : Array Slot}, Wd g s z.2 H locs → lv_has ls 9 [(0, .ref (g.2.2 (101))), (1, .int (x1)), (2, .int (x2)), (5, .int (x5)), (6, .int (z.1))] → lp (f_X11_keep_l169 x1 x2 x5) n z = some r → W p l e (rmm 5 117) s m args below meth c H locs 0 0 Q (F0 m 169 ls []) := by
  intro n
  induction n with
  | zero => intro z H locs ls Y hl h; cases h
  | succ n ih =>
    intro z H locs ls Y hl h
    obtain ⟨w, h, hw⟩ := lps h
    have KB : ∀ (v0_ : Int32) (v1_ : St), w = .inl (v0_, v1_) → ∀ (H : Heap) (locs : List Loc) (ls : Array Slot), Wd g s v1_ H locs → lv_has ls 9 [(0, .ref (g.2.2 (101))), (1, .int (x1)), (2, .int (x2)), (5, .int (x5)), (6, .int (v0_))] → W p l e (rmm 5 117) s m args below meth c H locs 0 0 Q (F0 m 169 ls []) := fun v0_ v1_ e H locs ls Y hl => ih (v0_, v1_) Y hl (lpl hw e)
    have KX0 := fun (v : St) (e : w = .inr v) => KX0 v (lpr hw e)
    unfold f_X11_keep_l169 at h
    refine lv_iload X.1 X.2.1 (dk T_X11_keep 99 rfl) (lv_at hl 4 rfl) ?_
    refine lv_aload_n X.1 X.2.1 (dk T_X11_keep 100 rfl) rfl (lv_at hl 0 rfl) ?_
    refine lv_iload_n X.1 X.2.1 (dk T_X11_keep 101 rfl) rfl (lv_at hl 1 rfl) ?_
    obtain ⟨q17, hq17, h⟩ := bs h
    refine gvI (rest := [.int (z.1)]) X Y (c_X11_cells x1 z.2 hq17) cb_X11_149 rfl hl.1 rfl rfl (Nat.le_of_ble_eq_true rfl) ⟨Nat.le_of_ble_eq_true rfl, Nat.le_of_ble_eq_true rfl⟩ (dk T_X11_keep 102 rfl) (fun H locs Y => ?_)
    refine lv_icmp_ge (tgt := 279) X.1 X.2.1 (dk T_X11_keep 103 rfl) rfl (fun c18 => ?_) (fun c18 => ?_)
    · replace h := ipos c18 h
      exact KX0 z.2 (Option.some.inj h).symm _ _ _ Y (lv_sub hl [3] rfl)
    · replace h := ineg c18 h
      refine lv_aload_n X.1 X.2.1 (dk T_X11_keep 104 rfl) rfl (lv_at hl 0 rfl) ?_
      refine gg X Y fl_X11_40 rfl rfl (dk T_X11_keep 105 rfl) ?_
      refine lv_iload X.1 X.2.1 (dk T_X11_keep 106 rfl) (lv_at hl 4 rfl) ?_
      obtain ⟨g19, h⟩ := gd h
      refine gil X Y rfl (inp g19) (dk T_X11_keep 107 rfl) ?_
      refine lv_iload_n X.1 X.2.1 (dk T_X11_keep 108 rfl) rfl (lv_at hl 2 rfl) ?_
      refine lv_icmp_ne (tgt := 273) X.1 X.2.1 (dk T_X11_keep 109 rfl) rfl (fun c20 => ?_) (fun c20 => ?_)
      · replace h := ineg c20 h
        exact w_X11_keep_j273 X x1 x2 x5 z.1 z.2 KB KX0 Y (lv_sub hl [0, 1, 2, 3, 4] rfl) h
      · replace h := ipos c20 h
        refine lv_iload X.1 X.2.1 (dk T_X11_keep 110 rfl) (lv_at hl 4 rfl) ?_
        refine lv_aload_n X.1 X.2.1 (dk T_X11_keep 111 rfl) rfl (lv_at hl 0 rfl) ?_
        refine gg X Y fl_X11_7 rfl rfl (dk T_X11_keep 112 rfl) ?_
        refine lv_iconst (v := 3) X.1 X.2.1 (dk T_X11_keep 113 rfl) ic_3 ?_
        refine lv_iload_n X.1 X.2.1 (dk T_X11_keep 114 rfl) rfl (lv_at hl 1 rfl) ?_
        refine lv_iadd X.1 X.2.1 (dk T_X11_keep 115 rfl) ?_
        obtain ⟨g21, h⟩ := gd h
        refine gil X Y rfl (inp g21) (dk T_X11_keep 116 rfl) ?_
        obtain ⟨g22, h⟩ := gd h
        refine lv_irem X.1 X.2.1 (dk T_X11_keep 117 rfl) (nzp g22) ?_
        refine lv_aload_n X.1 X.2.1 (dk T_X11_keep 118 rfl) rfl (lv_at hl 0 rfl) ?_
        refine gg X Y fl_X11_264 rfl rfl (dk T_X11_keep 119 rfl) ?_
        refine lv_isub X.1 X.2.1 (dk T_X11_keep 120 rfl) ?_
        refine lv_istore (lv' := [(7, .int ((z.1 - z.1 / (z.2 102 (3 + x1).toNatClampNeg) * (z.2 102 (3 + x1).toNatClampNeg)) - (z.2 101 26))), (0, .ref (g.2.2 (101))), (1, .int (x1)), (2, .int (x2)), (5, .int (x5)), (6, .int (z.1))]) X.1 X.2.1 (dk T_X11_keep 121 rfl) hl (Nat.le_of_ble_eq_true rfl) rfl (fun ls hl => ?_)
        refine lv_iload X.1 X.2.1 (dk T_X11_keep 122 rfl) (lv_at hl 5 rfl) ?_
        refine lv_aload_n X.1 X.2.1 (dk T_X11_keep 123 rfl) rfl (lv_at hl 1 rfl) ?_
        refine gg X Y fl_X11_7 rfl rfl (dk T_X11_keep 124 rfl) ?_
        refine lv_iconst (v := 3) X.1 X.2.1 (dk T_X11_keep 125 rfl) ic_3 ?_
        refine lv_iload_n X.1 X.2.1 (dk T_X11_keep 126 rfl) rfl (lv_at hl 2 rfl) ?_
        refine lv_iadd X.1 X.2.1 (dk T_X11_keep 127 rfl) ?_
        obtain ⟨g23, h⟩ := gd h
        refine gil X Y rfl (inp g23) (dk T_X11_keep 128 rfl) ?_
        obtain ⟨g24, h⟩ := gd h
        refine lv_idiv X.1 X.2.1 (dk T_X11_keep 129 rfl) (nzp g24) ?_
        refine lv_aload_n X.1 X.2.1 (dk T_X11_keep 130 rfl) rfl (lv_at hl 1 rfl) ?_
        refine gg X Y fl_X11_270 rfl rfl (dk T_X11_keep 131 rfl) ?_
        refine lv_isub X.1 X.2.1 (dk T_X11_keep 132 rfl) ?_
        refine lv_istore (lv' := [(8, .int ((z.1 / (z.2 102 (3 + x1).toNatClampNeg)) - (z.2 101 28))), (7, .int ((z.1 - z.1 / (z.2 102 (3 + x1).toNatClampNeg) * (z.2 102 (3 + x1).toNatClampNeg)) - (z.2 101 26))), (0, .ref (g.2.2 (101))), (1, .int (x1)), (2, .int (x2)), (5, .int (x5)), (6, .int (z.1))]) X.1 X.2.1 (dk T_X11_keep 133 rfl) hl (Nat.le_of_ble_eq_true rfl) rfl (fun ls hl => ?_)
        refine lv_aload_n X.1 X.2.1 (dk T_X11_keep 134 rfl) rfl (lv_at hl 2 rfl) ?_
        refine gg X Y fl_X11_7 rfl rfl (dk T_X11_keep 135 rfl) ?_
        refine lv_bipush (v := 21) X.1 X.2.1 (dk T_X11_keep 136 rfl) bp_21 ?_
        refine lv_bipush (v := 100) X.1 X.2.1 (dk T_X11_keep 137 rfl) bp_100 ?_
        refine lv_iload X.1 X.2.1 (dk T_X11_keep 138 rfl) (lv_at hl 5 rfl) ?_
        refine lv_imul X.1 X.2.1 (dk T_X11_keep 139 rfl) ?_
        refine lv_iadd X.1 X.2.1 (dk T_X11_keep 140 rfl) ?_
        refine lv_aload_n X.1 X.2.1 (dk T_X11_keep 141 rfl) rfl (lv_at hl 2 rfl) ?_
        refine gg X Y fl_X11_7 rfl rfl (dk T_X11_keep 142 rfl) ?_
        refine lv_iconst (v := 3) X.1 X.2.1 (dk T_X11_keep 143 rfl) ic_3 ?_
        refine lv_iload X.1 X.2.1 (dk T_X11_keep 144 rfl) (lv_at hl 5 rfl) ?_
        refine lv_iadd X.1 X.2.1 (dk T_X11_keep 145 rfl) ?_
        obtain ⟨g25, h⟩ := gd h
        refine gil X Y rfl (inp g25) (dk T_X11_keep 146 rfl) ?_
        refine lv_iload X.1 X.2.1 (dk T_X11_keep 147 rfl) (lv_at hl 1 rfl) ?_
        refine lv_iload X.1 X.2.1 (dk T_X11_keep 148 rfl) (lv_at hl 0 rfl) ?_
        obtain ⟨q26, hq26, h⟩ := bs h
        refine gsI (rest := [.int (21 + (100 * x5)), .ref (g.2.2 (102))]) X Y (c_X11_at (z.2 102 (3 + x5).toNatClampNeg) ((z.1 - z.1 / (z.2 102 (3 + x1).toNatClampNeg) * (z.2 102 (3 + x1).toNatClampNeg)) - (z.2 101 26)) ((z.1 / (z.2 102 (3 + x1).toNatClampNeg)) - (z.2 101 28)) z.2 hq26) cb_X11_102 hl.1 rfl rfl (Nat.le_of_ble_eq_true rfl) ⟨Nat.le_of_ble_eq_true rfl, Nat.le_of_ble_eq_true rfl⟩ (dk T_X11_keep 149 rfl) (fun H locs Y => ?_)
        refine lv_iadd X.1 X.2.1 (dk T_X11_keep 150 rfl) ?_
        refine lv_iconst (v := 1) X.1 X.2.1 (dk T_X11_keep 151 rfl) ic_1 ?_
        obtain ⟨g27, h⟩ := gd h
        refine gis X Y rfl (inp g27) (dk T_X11_keep 152 rfl) (fun H locs Y => ?_)
        refine lv_aload_n X.1 X.2.1 (dk T_X11_keep 153 rfl) rfl (lv_at hl 2 rfl) ?_
        refine gg X Y fl_X11_7 rfl rfl (dk T_X11_keep 154 rfl) ?_
        refine lv_bipush (v := 21) X.1 X.2.1 (dk T_X11_keep 155 rfl) bp_21 ?_
        refine lv_bipush (v := 100) X.1 X.2.1 (dk T_X11_keep 156 rfl) bp_100 ?_
        refine lv_iload_n X.1 X.2.1 (dk T_X11_keep 157 rfl) rfl (lv_at hl 3 rfl) ?_
        refine lv_imul X.1 X.2.1 (dk T_X11_keep 158 rfl) ?_
        refine lv_iadd X.1 X.2.1 (dk T_X11_keep 159 rfl) ?_
        refine lv_iload X.1 X.2.1 (dk T_X11_keep 160 rfl) (lv_at hl 6 rfl) ?_
        refine lv_iadd X.1 X.2.1 (dk T_X11_keep 161 rfl) ?_
        refine lv_iconst (v := 0) X.1 X.2.1 (dk T_X11_keep 162 rfl) ic_0 ?_
        obtain ⟨g28, h⟩ := gd h
        refine gis X Y rfl (inp g28) (dk T_X11_keep 163 rfl) (fun H locs Y => ?_)
        exact w_X11_keep_j273 X x1 x2 x5 z.1 (up (up z.2 102 ((21 + (100 * x5)) + q26).toNatClampNeg 1) 102 ((21 + (100 * x1)) + z.1).toNatClampNeg 0) KB KX0 Y (lv_sub hl [2, 3, 4, 5, 6] rfl) h
def f_X11_keep_j119 (x1 : Int32) (x2 : Int32) (s0 : Int32) (s1 : Int32) (σ : St) : Option (Int32 × St) :=
  chk (inb (15 + x1) 761) ((f_X11_makesSheet s1 s0 (σ 102 (15 + x1).toNatClampNeg) σ).bind fun q13 => (lp (f_X11_keep_l136 x1 x2 q13.1) FU (0, q13.2)).bind fun q16 => (lp (f_X11_keep_l169 x1 x2 q13.1) FU (0, q16)).bind fun q29 => some (q13.1, q29))
set_option maxHeartbeats 4000000 in
set_option maxRecDepth 100000 in
theorem w_X11_keep_j119 (X : Cx g RX11 cX11_keep 9 (some .int) p s m args meth c) (x1 : Int32) (x2 : Int32) (s0 : Int32) (s1 : Int32) (σ : St) {w : Int32 × St} (KR : ∀ (H : Heap) (locs : List Loc) (ls : Array Slot) (pc : Nat), Wd g s w.2 H locs → decode cX11_keep pc = .ok (.ireturn, 1) → W p l e (rmm 5 117) s m args below meth c H locs 0 0 Q (F0 m pc ls [.int (w.1)])) {H : Heap} {locs : List Loc} {ls : Array Slot} (Y : Wd g s σ H locs) (hl : lv_has ls 9 [(0, .ref (g.2.2 (101))), (1, .int (x1)), (2, .int (x2))]) (h : f_X11_keep_j119 x1 x2 s0 s1 σ = some w) : W p l e (rmm 5 117) s m args below meth c H locs 0 0 Q (F0 m 119 ls [.int (s0), .int (s1), .ref (g.2.2 (101))]) := by
  unfold f_X11_keep_j119 at h
  refine lv_aload_n X.1 X.2.1 (dk T_X11_keep 71 rfl) rfl (lv_at hl 0 rfl) ?_
  refine gg X Y fl_X11_7 rfl rfl (dk T_X11_keep 72 rfl) ?_
  refine lv_bipush (v := 15) X.1 X.2.1 (dk T_X11_keep 73 rfl) bp_15 ?_
  refine lv_iload_n X.1 X.2.1 (dk T_X11_keep 74 rfl) rfl (lv_at hl 1 rfl) ?_
  refine lv_iadd X.1 X.2.1 (dk T_X11_keep 75 rfl) ?_
  obtain ⟨g12, h⟩ := gd h
  refine gil X Y rfl (inp g12) (dk T_X11_keep 76 rfl) ?_
  obtain ⟨q13, hq13, h⟩ := bs h
  refine gvI (rest := []) X Y (c_X11_makesSheet s1 s0 (σ 102 (15 + x1).toNatClampNeg) σ hq13) cb_X11_98 rfl hl.1 rfl rfl (Nat.le_of_ble_eq_true rfl) ⟨Nat.le_of_ble_eq_true rfl, Nat.le_of_ble_eq_true rfl⟩ (dk T_X11_keep 77 rfl) (fun H locs Y => ?_)
  refine lv_istore (lv' := [(5, .int (q13.1)), (0, .ref (g.2.2 (101))), (1, .int (x1)), (2, .int (x2))]) X.1 X.2.1 (dk T_X11_keep 78 rfl) hl (Nat.le_of_ble_eq_true rfl) rfl (fun ls hl => ?_)
  refine lv_iconst (v := 0) X.1 X.2.1 (dk T_X11_keep 79 rfl) ic_0 ?_
  refine lv_istore (lv' := [(6, .int (0)), (5, .int (q13.1)), (0, .ref (g.2.2 (101))), (1, .int (x1)), (2, .int (x2))]) X.1 X.2.1 (dk T_X11_keep 80 rfl) hl (Nat.le_of_ble_eq_true rfl) rfl (fun ls hl => ?_)
  obtain ⟨q16, hq16, h⟩ := bs h
  refine w_X11_keep_l136 X x1 x2 q13.1 σ (fun v e H locs ls Y hl => ?_) FU (0, q13.2) Y (lv_sub hl [2, 3, 4, 1, 0] rfl) hq16
  · obtain rfl := e
    refine lv_iconst (v := 0) X.1 X.2.1 (dk T_X11_keep 97 rfl) ic_0 ?_
    refine lv_istore (lv' := [(6, .int (0)), (0, .ref (g.2.2 (101))), (1, .int (x1)), (2, .int (x2)), (5, .int (q13.1))]) X.1 X.2.1 (dk T_X11_keep 98 rfl) hl (Nat.le_of_ble_eq_true rfl) rfl (fun ls hl => ?_)
    obtain ⟨q29, hq29, h⟩ := bs h
    refine w_X11_keep_l169 X x1 x2 q13.1 σ (fun v e H locs ls Y hl => ?_) FU (0, q16) Y (lv_sub hl [1, 2, 3, 4, 0] rfl) hq29
    · obtain rfl := e
      refine lv_iload X.1 X.2.1 (dk T_X11_keep 166 rfl) (lv_at hl 0 rfl) ?_
      obtain rfl := Option.some.inj h
      exact KR _ _ _ _ Y (dk T_X11_keep 167 rfl)
def f_X11_keep_j107 (x1 : Int32) (x2 : Int32) (x4 : Int32) (s0 : Int32) (σ : St) : Option (Int32 × St) :=
  if 2 ≤ x4 then f_X11_keep_j119 x1 x2 x4 s0 σ else f_X11_keep_j119 x1 x2 2 s0 σ
set_option maxHeartbeats 4000000 in
set_option maxRecDepth 100000 in
theorem w_X11_keep_j107 (X : Cx g RX11 cX11_keep 9 (some .int) p s m args meth c) (x1 : Int32) (x2 : Int32) (x4 : Int32) (s0 : Int32) (σ : St) {w : Int32 × St} (KR : ∀ (H : Heap) (locs : List Loc) (ls : Array Slot) (pc : Nat), Wd g s w.2 H locs → decode cX11_keep pc = .ok (.ireturn, 1) → W p l e (rmm 5 117) s m args below meth c H locs 0 0 Q (F0 m pc ls [.int (w.1)])) {H : Heap} {locs : List Loc} {ls : Array Slot} (Y : Wd g s σ H locs) (hl : lv_has ls 9 [(0, .ref (g.2.2 (101))), (1, .int (x1)), (2, .int (x2)), (4, .int (x4))]) (h : f_X11_keep_j107 x1 x2 x4 s0 σ = some w) : W p l e (rmm 5 117) s m args below meth c H locs 0 0 Q (F0 m 107 ls [.int (s0), .ref (g.2.2 (101))]) := by
  unfold f_X11_keep_j107 at h
  refine lv_iload X.1 X.2.1 (dk T_X11_keep 65 rfl) (lv_at hl 3 rfl) ?_
  refine lv_iconst (v := 2) X.1 X.2.1 (dk T_X11_keep 66 rfl) ic_2 ?_
  refine lv_icmp_ge (tgt := 117) X.1 X.2.1 (dk T_X11_keep 67 rfl) rfl (fun c11 => ?_) (fun c11 => ?_)
  · replace h := ipos c11 h
    refine lv_iload X.1 X.2.1 (dk T_X11_keep 70 rfl) (lv_at hl 3 rfl) ?_
    exact w_X11_keep_j119 X x1 x2 x4 s0 σ KR Y (lv_sub hl [0, 1, 2] rfl) h
  · replace h := ineg c11 h
    refine lv_iconst (v := 2) X.1 X.2.1 (dk T_X11_keep 68 rfl) ic_2 ?_
    refine lv_goto (tgt := 119) X.1 X.2.1 (dk T_X11_keep 69 rfl) rfl ?_
    exact w_X11_keep_j119 X x1 x2 2 s0 σ KR Y (lv_sub hl [0, 1, 2] rfl) h
def f_X11_keep_0 (x1 : Int32) (x2 : Int32) (σ : St) : Option (Int32 × St) :=
  (f_X11_isSheet x1 (up σ 101 0 0)).bind fun q1 => if q1 = 0 then (f_X11_fails 1 (up σ 101 0 0)).bind fun q32 => some (q32.1, q32.2) else (f_X11_remnants x1 (up σ 101 0 0)).bind fun q3 => (f_X11_in x2 0 ((q3 101 17) - 1)).bind fun q4 => if q4 = 0 then (f_X11_fails 1 q3).bind fun q31 => some (q31.1, q31.2) else chk (inb 0 761) (if (q3 102 (0 : Int32).toNatClampNeg) = 6 then (f_X11_fails 2 q3).bind fun q30 => some (q30.1, q30.2) else (f_X11_changes q3).bind fun q8 => (f_X11_bounds x1 x2 q8).bind fun q9 => if 2 ≤ (((q9 101 27) - (q9 101 26)) + 1) then f_X11_keep_j107 x1 x2 (((q9 101 29) - (q9 101 28)) + 1) (((q9 101 27) - (q9 101 26)) + 1) q9 else f_X11_keep_j107 x1 x2 (((q9 101 29) - (q9 101 28)) + 1) 2 q9)
set_option maxHeartbeats 4000000 in
set_option maxRecDepth 100000 in
theorem w_X11_keep_0 (X : Cx g RX11 cX11_keep 9 (some .int) p s m args meth c) (x1 : Int32) (x2 : Int32) (σ : St) {w : Int32 × St} (KR : ∀ (H : Heap) (locs : List Loc) (ls : Array Slot) (pc : Nat), Wd g s w.2 H locs → decode cX11_keep pc = .ok (.ireturn, 1) → W p l e (rmm 5 117) s m args below meth c H locs 0 0 Q (F0 m pc ls [.int (w.1)])) {H : Heap} {locs : List Loc} {ls : Array Slot} (Y : Wd g s σ H locs) (hl : lv_has ls 9 [(0, .ref (g.2.2 (101))), (1, .int (x1)), (2, .int (x2))]) (h : f_X11_keep_0 x1 x2 σ = some w) : W p l e (rmm 5 117) s m args below meth c H locs 0 0 Q (F0 m 0 ls []) := by
  unfold f_X11_keep_0 at h
  refine lv_aload_n X.1 X.2.1 (dk T_X11_keep 0 rfl) rfl (lv_at hl 0 rfl) ?_
  refine lv_iconst (v := 0) X.1 X.2.1 (dk T_X11_keep 1 rfl) ic_0 ?_
  refine gp X Y fp_X11_71 rfl (nar_int _) (dk T_X11_keep 2 rfl) (fun H locs Y => ?_)
  refine lv_aload_n X.1 X.2.1 (dk T_X11_keep 3 rfl) rfl (lv_at hl 0 rfl) ?_
  refine lv_iload_n X.1 X.2.1 (dk T_X11_keep 4 rfl) rfl (lv_at hl 1 rfl) ?_
  obtain ⟨q1, hq1, h⟩ := bs h
  refine gvI (rest := []) X Y (c_X11_isSheet x1 (up σ 101 0 0) hq1) cb_X11_155 rfl hl.1 rfl rfl (Nat.le_of_ble_eq_true rfl) ⟨Nat.le_of_ble_eq_true rfl, Nat.le_of_ble_eq_true rfl⟩ (dk T_X11_keep 5 rfl) (fun H locs Y => ?_)
  refine lv_if_ne (tgt := 19) X.1 X.2.1 (dk T_X11_keep 6 rfl) rfl (fun c2 => ?_) (fun c2 => ?_)
  · replace h := ineg c2 h
    refine lv_aload_n X.1 X.2.1 (dk T_X11_keep 11 rfl) rfl (lv_at hl 0 rfl) ?_
    refine lv_iload_n X.1 X.2.1 (dk T_X11_keep 12 rfl) rfl (lv_at hl 1 rfl) ?_
    obtain ⟨q3, hq3, h⟩ := bs h
    refine gvV (rest := []) X Y (c_X11_remnants x1 (up σ 101 0 0) hq3) cb_X11_175 rfl hl.1 rfl rfl (Nat.le_of_ble_eq_true rfl) ⟨Nat.le_of_ble_eq_true rfl, Nat.le_of_ble_eq_true rfl⟩ (dk T_X11_keep 13 rfl) (fun H locs Y => ?_)
    refine lv_iload_n X.1 X.2.1 (dk T_X11_keep 14 rfl) rfl (lv_at hl 2 rfl) ?_
    refine lv_iconst (v := 0) X.1 X.2.1 (dk T_X11_keep 15 rfl) ic_0 ?_
    refine lv_aload_n X.1 X.2.1 (dk T_X11_keep 16 rfl) rfl (lv_at hl 0 rfl) ?_
    refine gg X Y fl_X11_165 rfl rfl (dk T_X11_keep 17 rfl) ?_
    refine lv_iconst (v := 1) X.1 X.2.1 (dk T_X11_keep 18 rfl) ic_1 ?_
    refine lv_isub X.1 X.2.1 (dk T_X11_keep 19 rfl) ?_
    obtain ⟨q4, hq4, h⟩ := bs h
    refine gsI (rest := []) X Y (c_X11_in x2 0 ((q3 101 17) - 1) q3 hq4) cb_X11_75 hl.1 rfl rfl (Nat.le_of_ble_eq_true rfl) ⟨Nat.le_of_ble_eq_true rfl, Nat.le_of_ble_eq_true rfl⟩ (dk T_X11_keep 20 rfl) (fun H locs Y => ?_)
    refine lv_if_ne (tgt := 44) X.1 X.2.1 (dk T_X11_keep 21 rfl) rfl (fun c5 => ?_) (fun c5 => ?_)
    · replace h := ineg c5 h
      refine lv_aload_n X.1 X.2.1 (dk T_X11_keep 26 rfl) rfl (lv_at hl 0 rfl) ?_
      refine gg X Y fl_X11_7 rfl rfl (dk T_X11_keep 27 rfl) ?_
      refine lv_iconst (v := 0) X.1 X.2.1 (dk T_X11_keep 28 rfl) ic_0 ?_
      obtain ⟨g6, h⟩ := gd h
      refine gil X Y rfl (inp g6) (dk T_X11_keep 29 rfl) ?_
      refine lv_bipush (v := 6) X.1 X.2.1 (dk T_X11_keep 30 rfl) bp_6 ?_
      refine lv_icmp_ne (tgt := 61) X.1 X.2.1 (dk T_X11_keep 31 rfl) rfl (fun c7 => ?_) (fun c7 => ?_)
      · replace h := ineg c7 h
        refine lv_aload_n X.1 X.2.1 (dk T_X11_keep 36 rfl) rfl (lv_at hl 0 rfl) ?_
        obtain ⟨q8, hq8, h⟩ := bs h
        refine gvV (rest := []) X Y (c_X11_changes q3 hq8) cb_X11_95 rfl hl.1 rfl rfl (Nat.le_of_ble_eq_true rfl) ⟨Nat.le_of_ble_eq_true rfl, Nat.le_of_ble_eq_true rfl⟩ (dk T_X11_keep 37 rfl) (fun H locs Y => ?_)
        refine lv_aload_n X.1 X.2.1 (dk T_X11_keep 38 rfl) rfl (lv_at hl 0 rfl) ?_
        refine lv_iload_n X.1 X.2.1 (dk T_X11_keep 39 rfl) rfl (lv_at hl 1 rfl) ?_
        refine lv_iload_n X.1 X.2.1 (dk T_X11_keep 40 rfl) rfl (lv_at hl 2 rfl) ?_
        obtain ⟨q9, hq9, h⟩ := bs h
        refine gvV (rest := []) X Y (c_X11_bounds x1 x2 q8 hq9) cb_X11_283 rfl hl.1 rfl rfl (Nat.le_of_ble_eq_true rfl) ⟨Nat.le_of_ble_eq_true rfl, Nat.le_of_ble_eq_true rfl⟩ (dk T_X11_keep 41 rfl) (fun H locs Y => ?_)
        refine lv_aload_n X.1 X.2.1 (dk T_X11_keep 42 rfl) rfl (lv_at hl 0 rfl) ?_
        refine gg X Y fl_X11_267 rfl rfl (dk T_X11_keep 43 rfl) ?_
        refine lv_aload_n X.1 X.2.1 (dk T_X11_keep 44 rfl) rfl (lv_at hl 0 rfl) ?_
        refine gg X Y fl_X11_264 rfl rfl (dk T_X11_keep 45 rfl) ?_
        refine lv_isub X.1 X.2.1 (dk T_X11_keep 46 rfl) ?_
        refine lv_iconst (v := 1) X.1 X.2.1 (dk T_X11_keep 47 rfl) ic_1 ?_
        refine lv_iadd X.1 X.2.1 (dk T_X11_keep 48 rfl) ?_
        refine lv_istore_n (lv' := [(3, .int (((q9 101 27) - (q9 101 26)) + 1)), (0, .ref (g.2.2 (101))), (1, .int (x1)), (2, .int (x2))]) X.1 X.2.1 (dk T_X11_keep 49 rfl) rfl hl (Nat.le_of_ble_eq_true rfl) rfl (fun ls hl => ?_)
        refine lv_aload_n X.1 X.2.1 (dk T_X11_keep 50 rfl) rfl (lv_at hl 1 rfl) ?_
        refine gg X Y fl_X11_273 rfl rfl (dk T_X11_keep 51 rfl) ?_
        refine lv_aload_n X.1 X.2.1 (dk T_X11_keep 52 rfl) rfl (lv_at hl 1 rfl) ?_
        refine gg X Y fl_X11_270 rfl rfl (dk T_X11_keep 53 rfl) ?_
        refine lv_isub X.1 X.2.1 (dk T_X11_keep 54 rfl) ?_
        refine lv_iconst (v := 1) X.1 X.2.1 (dk T_X11_keep 55 rfl) ic_1 ?_
        refine lv_iadd X.1 X.2.1 (dk T_X11_keep 56 rfl) ?_
        refine lv_istore (lv' := [(4, .int (((q9 101 29) - (q9 101 28)) + 1)), (3, .int (((q9 101 27) - (q9 101 26)) + 1)), (0, .ref (g.2.2 (101))), (1, .int (x1)), (2, .int (x2))]) X.1 X.2.1 (dk T_X11_keep 57 rfl) hl (Nat.le_of_ble_eq_true rfl) rfl (fun ls hl => ?_)
        refine lv_aload_n X.1 X.2.1 (dk T_X11_keep 58 rfl) rfl (lv_at hl 2 rfl) ?_
        refine lv_iload_n X.1 X.2.1 (dk T_X11_keep 59 rfl) rfl (lv_at hl 1 rfl) ?_
        refine lv_iconst (v := 2) X.1 X.2.1 (dk T_X11_keep 60 rfl) ic_2 ?_
        refine lv_icmp_ge (tgt := 106) X.1 X.2.1 (dk T_X11_keep 61 rfl) rfl (fun c10 => ?_) (fun c10 => ?_)
        · replace h := ipos c10 h
          refine lv_iload_n X.1 X.2.1 (dk T_X11_keep 64 rfl) rfl (lv_at hl 1 rfl) ?_
          exact w_X11_keep_j107 X x1 x2 (((q9 101 29) - (q9 101 28)) + 1) (((q9 101 27) - (q9 101 26)) + 1) q9 KR Y (lv_sub hl [2, 3, 4, 0] rfl) h
        · replace h := ineg c10 h
          refine lv_iconst (v := 2) X.1 X.2.1 (dk T_X11_keep 62 rfl) ic_2 ?_
          refine lv_goto (tgt := 107) X.1 X.2.1 (dk T_X11_keep 63 rfl) rfl ?_
          exact w_X11_keep_j107 X x1 x2 (((q9 101 29) - (q9 101 28)) + 1) 2 q9 KR Y (lv_sub hl [2, 3, 4, 0] rfl) h
      · replace h := ipos c7 h
        refine lv_aload_n X.1 X.2.1 (dk T_X11_keep 32 rfl) rfl (lv_at hl 0 rfl) ?_
        refine lv_iconst (v := 2) X.1 X.2.1 (dk T_X11_keep 33 rfl) ic_2 ?_
        obtain ⟨q30, hq30, h⟩ := bs h
        refine gvI (rest := []) X Y (c_X11_fails 2 q3 hq30) cb_X11_91 rfl hl.1 rfl rfl (Nat.le_of_ble_eq_true rfl) ⟨Nat.le_of_ble_eq_true rfl, Nat.le_of_ble_eq_true rfl⟩ (dk T_X11_keep 34 rfl) (fun H locs Y => ?_)
        obtain rfl := Option.some.inj h
        exact KR _ _ _ _ Y (dk T_X11_keep 35 rfl)
    · replace h := ipos c5 h
      refine lv_aload_n X.1 X.2.1 (dk T_X11_keep 22 rfl) rfl (lv_at hl 0 rfl) ?_
      refine lv_iconst (v := 1) X.1 X.2.1 (dk T_X11_keep 23 rfl) ic_1 ?_
      obtain ⟨q31, hq31, h⟩ := bs h
      refine gvI (rest := []) X Y (c_X11_fails 1 q3 hq31) cb_X11_91 rfl hl.1 rfl rfl (Nat.le_of_ble_eq_true rfl) ⟨Nat.le_of_ble_eq_true rfl, Nat.le_of_ble_eq_true rfl⟩ (dk T_X11_keep 24 rfl) (fun H locs Y => ?_)
      obtain rfl := Option.some.inj h
      exact KR _ _ _ _ Y (dk T_X11_keep 25 rfl)
  · replace h := ipos c2 h
    refine lv_aload_n X.1 X.2.1 (dk T_X11_keep 7 rfl) rfl (lv_at hl 0 rfl) ?_
    refine lv_iconst (v := 1) X.1 X.2.1 (dk T_X11_keep 8 rfl) ic_1 ?_
    obtain ⟨q32, hq32, h⟩ := bs h
    refine gvI (rest := []) X Y (c_X11_fails 1 (up σ 101 0 0) hq32) cb_X11_91 rfl hl.1 rfl rfl (Nat.le_of_ble_eq_true rfl) ⟨Nat.le_of_ble_eq_true rfl, Nat.le_of_ble_eq_true rfl⟩ (dk T_X11_keep 9 rfl) (fun H locs Y => ?_)
    obtain rfl := Option.some.inj h
    exact KR _ _ _ _ Y (dk T_X11_keep 10 rfl)
def f_X11_keep (x1 : Int32) (x2 : Int32) (σ : St) : Option (Int32 × St) := f_X11_keep_0 x1 x2 σ
set_option maxHeartbeats 4000000 in
set_option maxRecDepth 100000 in
theorem c_X11_keep {l : Launch} {g : Geo} (x1 : Int32) (x2 : Int32) (σ : St) {w : Int32 × St} (h : f_X11_keep x1 x2 σ = some w) : CtI l yX11_keep cX11_keep 9 (some .int) (rmm 5 117) g [.ref (g.2.2 (101)), .int (x1), .int (x2)] σ w.1 w.2 := enI .int (by decide) rfl rfl (Nat.le_of_ble_eq_true rfl) (fun p e s m args below meth c Q X Y ls hl KR => w_X11_keep_0 X x1 x2 σ KR Y hl h)
def I_X11_lists : List (Nat × Instr × Nat) := [(0, .aload_n 0, 1), (1, .iload_n 1, 1), (2, .invokevirtual 145, 3), (5, .aload_n 0, 1), (6, .iconst 0, 1), (7, .putfield 292, 3), (10, .iconst 0, 1), (11, .istore_n 2, 1), (12, .iload_n 2, 1), (13, .aload_n 0, 1), (14, .getfield 7, 3), (17, .iconst 2, 1), (18, .iaload, 1), (19, .if_icmp .ge 57, 3), (22, .aload_n 0, 1), (23, .getfield 7, 3), (26, .sipush 681, 3), (29, .iload_n 2, 1), (30, .iadd, 1), (31, .iaload, 1), (32, .iload_n 1, 1), (33, .if_icmp .ne 37, 3), (36, .aload_n 0, 1), (37, .getfield 53, 3), (40, .aload_n 0, 1), (41, .getfield 292, 3), (44, .iload_n 2, 1), (45, .iastore, 1), (46, .aload_n 0, 1), (47, .getfield 56, 3), (50, .aload_n 0, 1), (51, .getfield 292, 3), (54, .aload_n 0, 1), (55, .iload_n 2, 1), (56, .invokevirtual 233, 3), (59, .iastore, 1), (60, .aload_n 0, 1), (61, .dup, 1), (62, .getfield 292, 3), (65, .iconst 1, 1), (66, .iadd, 1), (67, .putfield 292, 3), (70, .iinc 2 1, 3), (73, .goto (-61), 3), (76, .iconst 0, 1), (77, .istore_n 2, 1), (78, .iload_n 2, 1), (79, .aload_n 0, 1), (80, .getfield 292, 3), (83, .if_icmp .ge 67, 3), (86, .aload_n 0, 1), (87, .getfield 59, 3), (90, .iload_n 2, 1), (91, .iconst 0, 1), (92, .iastore, 1), (93, .iconst 0, 1), (94, .istore_n 3, 1), (95, .iload_n 3, 1), (96, .aload_n 0, 1), (97, .getfield 292, 3), (100, .if_icmp .ge 44, 3), (103, .aload_n 0, 1), (104, .getfield 59, 3), (107, .iload_n 2, 1), (108, .dup2, 1), (109, .iaload, 1), (110, .aload_n 0, 1), (111, .aload_n 0, 1), (112, .getfield 53, 3), (115, .iload_n 3, 1), (116, .iaload, 1), (117, .aload_n 0, 1), (118, .getfield 53, 3), (121, .iload_n 2, 1), (122, .iaload, 1), (123, .invokevirtual 236, 3), (126, .ifCond .eq 9, 3), (129, .iconst 1, 1), (130, .iload_n 3, 1), (131, .ishl, 1), (132, .goto 4, 3), (135, .iconst 0, 1), (136, .ior, 1), (137, .iastore, 1), (138, .iinc 3 1, 3), (141, .goto (-46), 3), (144, .iinc 2 1, 3), (147, .goto (-69), 3), (150, .return_, 1)]
set_option maxRecDepth 100000 in
theorem T_X11_lists : ∀ q ∈ I_X11_lists, decode cX11_lists q.1 = .ok (q.2.1, q.2.2) := by decide +kernel
def f_X11_lists_j70 (x1 : Int32) (x2 : Int32) (σ : St) : Option ((Int32 × St) ⊕ (St)) :=
  some (.inl (x2 + 1, σ))
set_option maxHeartbeats 4000000 in
set_option maxRecDepth 100000 in
theorem w_X11_lists_j70 (X : Cx g RX11 cX11_lists 4 none p s m args meth c) (x1 : Int32) (x2 : Int32) (σ : St) {w : (Int32 × St) ⊕ (St)} (KB : ∀ (v0_ : Int32) (v1_ : St), w = .inl (v0_, v1_) → ∀ (H : Heap) (locs : List Loc) (ls : Array Slot), Wd g s v1_ H locs → lv_has ls 4 [(0, .ref (g.2.2 (101))), (1, .int (x1)), (2, .int (v0_))] → W p l e (rmm 5 120) s m args below meth c H locs 0 0 Q (F0 m 12 ls [])) (KX0 : ∀ (v : St), w = .inr v → ∀ (H : Heap) (locs : List Loc) (ls : Array Slot), Wd g s v H locs → lv_has ls 4 [(0, .ref (g.2.2 (101)))] → W p l e (rmm 5 120) s m args below meth c H locs 0 0 Q (F0 m 76 ls [])) {H : Heap} {locs : List Loc} {ls : Array Slot} (Y : Wd g s σ H locs) (hl : lv_has ls 4 [(0, .ref (g.2.2 (101))), (1, .int (x1)), (2, .int (x2))]) (h : f_X11_lists_j70 x1 x2 σ = some w) : W p l e (rmm 5 120) s m args below meth c H locs 0 0 Q (F0 m 70 ls []) := by
  unfold f_X11_lists_j70 at h
  refine lv_iinc (v := x2 + 1) (lv' := [(2, .int (x2 + 1)), (0, .ref (g.2.2 (101))), (1, .int (x1))]) X.1 X.2.1 (dk T_X11_lists 42 rfl) hl (k := 2) rfl (icx ic_1) (Nat.le_of_ble_eq_true rfl) rfl (fun ls hl => ?_)
  refine lv_goto (tgt := 12) X.1 X.2.1 (dk T_X11_lists 43 rfl) rfl ?_
  exact KB (x2 + 1) σ (Option.some.inj h).symm _ _ _ Y (lv_sub hl [1, 2, 0] rfl)
def f_X11_lists_l12 (x1 : Int32) (z : Int32 × St) : Option ((Int32 × St) ⊕ (St)) :=
  chk (inb 2 761) (if (z.2 102 (2 : Int32).toNatClampNeg) ≤ z.1 then some (.inr z.2) else chk (inb (681 + z.1) 761) (if (z.2 102 (681 + z.1).toNatClampNeg) = x1 then chk (inb (z.2 101 35) 20) ((f_X11_lowestCell z.1 (up z.2 116 (z.2 101 35).toNatClampNeg z.1)).bind fun q7 => chk (inb (up z.2 116 (z.2 101 35).toNatClampNeg z.1 101 35) 20) (f_X11_lists_j70 x1 z.1 (up (up (up z.2 116 (z.2 101 35).toNatClampNeg z.1) 117 (up z.2 116 (z.2 101 35).toNatClampNeg z.1 101 35).toNatClampNeg q7) 101 35 ((up (up z.2 116 (z.2 101 35).toNatClampNeg z.1) 117 (up z.2 116 (z.2 101 35).toNatClampNeg z.1 101 35).toNatClampNeg q7 101 35) + 1)))) else f_X11_lists_j70 x1 z.1 z.2))
set_option maxHeartbeats 4000000 in
set_option maxRecDepth 100000 in
theorem w_X11_lists_l12 (X : Cx g RX11 cX11_lists 4 none p s m args meth c) (x1 : Int32) (σ : St) {r : St} (KX0 : ∀ (v : St), r = v → ∀ (H : Heap) (locs : List Loc) (ls : Array Slot), Wd g s v H locs → lv_has ls 4 [(0, .ref (g.2.2 (101)))] → W p l e (rmm 5 120) s m args below meth c H locs 0 0 Q (F0 m 76 ls [])) : ∀ (n : Nat) (z : Int32 × St) {H : Heap} {locs : List Loc} {ls : Array Slot}, Wd g s z.2 H locs → lv_has ls 4 [(0, .ref (g.2.2 (101))), (1, .int (x1)), (2, .int (z.1))] → lp (f_X11_lists_l12 x1) n z = some r → W p l e (rmm 5 120) s m args below meth c H locs 0 0 Q (F0 m 12 ls []) := by
  intro n
  induction n with
  | zero => intro z H locs ls Y hl h; cases h
  | succ n ih =>
    intro z H locs ls Y hl h
    obtain ⟨w, h, hw⟩ := lps h
    have KB : ∀ (v0_ : Int32) (v1_ : St), w = .inl (v0_, v1_) → ∀ (H : Heap) (locs : List Loc) (ls : Array Slot), Wd g s v1_ H locs → lv_has ls 4 [(0, .ref (g.2.2 (101))), (1, .int (x1)), (2, .int (v0_))] → W p l e (rmm 5 120) s m args below meth c H locs 0 0 Q (F0 m 12 ls []) := fun v0_ v1_ e H locs ls Y hl => ih (v0_, v1_) Y hl (lpl hw e)
    have KX0 := fun (v : St) (e : w = .inr v) => KX0 v (lpr hw e)
    unfold f_X11_lists_l12 at h
    refine lv_iload_n X.1 X.2.1 (dk T_X11_lists 8 rfl) rfl (lv_at hl 2 rfl) ?_
    refine lv_aload_n X.1 X.2.1 (dk T_X11_lists 9 rfl) rfl (lv_at hl 0 rfl) ?_
    refine gg X Y fl_X11_7 rfl rfl (dk T_X11_lists 10 rfl) ?_
    refine lv_iconst (v := 2) X.1 X.2.1 (dk T_X11_lists 11 rfl) ic_2 ?_
    obtain ⟨g2, h⟩ := gd h
    refine gil X Y rfl (inp g2) (dk T_X11_lists 12 rfl) ?_
    refine lv_icmp_ge (tgt := 76) X.1 X.2.1 (dk T_X11_lists 13 rfl) rfl (fun c3 => ?_) (fun c3 => ?_)
    · replace h := ipos c3 h
      exact KX0 z.2 (Option.some.inj h).symm _ _ _ Y (lv_sub hl [0] rfl)
    · replace h := ineg c3 h
      refine lv_aload_n X.1 X.2.1 (dk T_X11_lists 14 rfl) rfl (lv_at hl 0 rfl) ?_
      refine gg X Y fl_X11_7 rfl rfl (dk T_X11_lists 15 rfl) ?_
      refine lv_sipush (v := 681) X.1 X.2.1 (dk T_X11_lists 16 rfl) sp_681 ?_
      refine lv_iload_n X.1 X.2.1 (dk T_X11_lists 17 rfl) rfl (lv_at hl 2 rfl) ?_
      refine lv_iadd X.1 X.2.1 (dk T_X11_lists 18 rfl) ?_
      obtain ⟨g4, h⟩ := gd h
      refine gil X Y rfl (inp g4) (dk T_X11_lists 19 rfl) ?_
      refine lv_iload_n X.1 X.2.1 (dk T_X11_lists 20 rfl) rfl (lv_at hl 1 rfl) ?_
      refine lv_icmp_ne (tgt := 70) X.1 X.2.1 (dk T_X11_lists 21 rfl) rfl (fun c5 => ?_) (fun c5 => ?_)
      · replace h := ineg c5 h
        exact w_X11_lists_j70 X x1 z.1 z.2 KB KX0 Y (lv_sub hl [0, 1, 2] rfl) h
      · replace h := ipos c5 h
        refine lv_aload_n X.1 X.2.1 (dk T_X11_lists 22 rfl) rfl (lv_at hl 0 rfl) ?_
        refine gg X Y fl_X11_53 rfl rfl (dk T_X11_lists 23 rfl) ?_
        refine lv_aload_n X.1 X.2.1 (dk T_X11_lists 24 rfl) rfl (lv_at hl 0 rfl) ?_
        refine gg X Y fl_X11_292 rfl rfl (dk T_X11_lists 25 rfl) ?_
        refine lv_iload_n X.1 X.2.1 (dk T_X11_lists 26 rfl) rfl (lv_at hl 2 rfl) ?_
        obtain ⟨g6, h⟩ := gd h
        refine gis X Y rfl (inp g6) (dk T_X11_lists 27 rfl) (fun H locs Y => ?_)
        refine lv_aload_n X.1 X.2.1 (dk T_X11_lists 28 rfl) rfl (lv_at hl 0 rfl) ?_
        refine gg X Y fl_X11_56 rfl rfl (dk T_X11_lists 29 rfl) ?_
        refine lv_aload_n X.1 X.2.1 (dk T_X11_lists 30 rfl) rfl (lv_at hl 0 rfl) ?_
        refine gg X Y fl_X11_292 rfl rfl (dk T_X11_lists 31 rfl) ?_
        refine lv_aload_n X.1 X.2.1 (dk T_X11_lists 32 rfl) rfl (lv_at hl 0 rfl) ?_
        refine lv_iload_n X.1 X.2.1 (dk T_X11_lists 33 rfl) rfl (lv_at hl 2 rfl) ?_
        obtain ⟨q7, hq7, h⟩ := bs h
        refine gvI (rest := [.int (up z.2 116 (z.2 101 35).toNatClampNeg z.1 101 35), .ref (g.2.2 (117))]) X Y (c_X11_lowestCell z.1 (up z.2 116 (z.2 101 35).toNatClampNeg z.1) hq7) cb_X11_233 rfl hl.1 rfl rfl (Nat.le_of_ble_eq_true rfl) ⟨Nat.le_of_ble_eq_true rfl, Nat.le_of_ble_eq_true rfl⟩ (dk T_X11_lists 34 rfl) (fun H locs Y => ?_)
        obtain ⟨g8, h⟩ := gd h
        refine gis X Y rfl (inp g8) (dk T_X11_lists 35 rfl) (fun H locs Y => ?_)
        refine lv_aload_n X.1 X.2.1 (dk T_X11_lists 36 rfl) rfl (lv_at hl 0 rfl) ?_
        refine lv_dup X.1 X.2.1 (dk T_X11_lists 37 rfl) rfl ?_
        refine gg X Y fl_X11_292 rfl rfl (dk T_X11_lists 38 rfl) ?_
        refine lv_iconst (v := 1) X.1 X.2.1 (dk T_X11_lists 39 rfl) ic_1 ?_
        refine lv_iadd X.1 X.2.1 (dk T_X11_lists 40 rfl) ?_
        refine gp X Y fp_X11_292 rfl (nar_int _) (dk T_X11_lists 41 rfl) (fun H locs Y => ?_)
        exact w_X11_lists_j70 X x1 z.1 (up (up (up z.2 116 (z.2 101 35).toNatClampNeg z.1) 117 (up z.2 116 (z.2 101 35).toNatClampNeg z.1 101 35).toNatClampNeg q7) 101 35 ((up (up z.2 116 (z.2 101 35).toNatClampNeg z.1) 117 (up z.2 116 (z.2 101 35).toNatClampNeg z.1 101 35).toNatClampNeg q7 101 35) + 1)) KB KX0 Y (lv_sub hl [0, 1, 2] rfl) h
def f_X11_lists_j136 (x2 : Int32) (x3 : Int32) (s0 : Int32) (s1 : Int32) (s2 : Int32) (σ : St) : Option ((Int32 × St) ⊕ (St)) :=
  chk (inb s2 20) (some (.inl (x3 + 1, up σ 118 s2.toNatClampNeg (s1 ||| s0))))
set_option maxHeartbeats 4000000 in
set_option maxRecDepth 100000 in
theorem w_X11_lists_j136 (X : Cx g RX11 cX11_lists 4 none p s m args meth c) (x2 : Int32) (x3 : Int32) (s0 : Int32) (s1 : Int32) (s2 : Int32) (σ : St) {w : (Int32 × St) ⊕ (St)} (KB : ∀ (v0_ : Int32) (v1_ : St), w = .inl (v0_, v1_) → ∀ (H : Heap) (locs : List Loc) (ls : Array Slot), Wd g s v1_ H locs → lv_has ls 4 [(0, .ref (g.2.2 (101))), (2, .int (x2)), (3, .int (v0_))] → W p l e (rmm 5 120) s m args below meth c H locs 0 0 Q (F0 m 95 ls [])) (KX0 : ∀ (v : St), w = .inr v → ∀ (H : Heap) (locs : List Loc) (ls : Array Slot), Wd g s v H locs → lv_has ls 4 [(0, .ref (g.2.2 (101))), (2, .int (x2))] → W p l e (rmm 5 120) s m args below meth c H locs 0 0 Q (F0 m 144 ls [])) {H : Heap} {locs : List Loc} {ls : Array Slot} (Y : Wd g s σ H locs) (hl : lv_has ls 4 [(0, .ref (g.2.2 (101))), (2, .int (x2)), (3, .int (x3))]) (h : f_X11_lists_j136 x2 x3 s0 s1 s2 σ = some w) : W p l e (rmm 5 120) s m args below meth c H locs 0 0 Q (F0 m 136 ls [.int (s0), .int (s1), .int (s2), .ref (g.2.2 (118))]) := by
  unfold f_X11_lists_j136 at h
  refine lv_ior X.1 X.2.1 (dk T_X11_lists 82 rfl) ?_
  obtain ⟨g18, h⟩ := gd h
  refine gis X Y rfl (inp g18) (dk T_X11_lists 83 rfl) (fun H locs Y => ?_)
  refine lv_iinc (v := x3 + 1) (lv' := [(3, .int (x3 + 1)), (0, .ref (g.2.2 (101))), (2, .int (x2))]) X.1 X.2.1 (dk T_X11_lists 84 rfl) hl (k := 2) rfl (icx ic_1) (Nat.le_of_ble_eq_true rfl) rfl (fun ls hl => ?_)
  refine lv_goto (tgt := 95) X.1 X.2.1 (dk T_X11_lists 85 rfl) rfl ?_
  exact KB (x3 + 1) (up σ 118 s2.toNatClampNeg (s1 ||| s0)) (Option.some.inj h).symm _ _ _ Y (lv_sub hl [1, 2, 0] rfl)
def f_X11_lists_l95 (x2 : Int32) (z : Int32 × St) : Option ((Int32 × St) ⊕ (St)) :=
  if (z.2 101 35) ≤ z.1 then some (.inr z.2) else chk (inb x2 20) (chk (inb z.1 20) (chk (inb x2 20) ((f_X11_isWithin (z.2 116 z.1.toNatClampNeg) (z.2 116 x2.toNatClampNeg) z.2).bind fun q16 => if q16.1 = 0 then f_X11_lists_j136 x2 z.1 0 (z.2 118 x2.toNatClampNeg) x2 q16.2 else f_X11_lists_j136 x2 z.1 ((1 : Int32) <<< (z.1 &&& 31)) (z.2 118 x2.toNatClampNeg) x2 q16.2)))
set_option maxHeartbeats 4000000 in
set_option maxRecDepth 100000 in
theorem w_X11_lists_l95 (X : Cx g RX11 cX11_lists 4 none p s m args meth c) (x2 : Int32) (σ : St) {r : St} (KX0 : ∀ (v : St), r = v → ∀ (H : Heap) (locs : List Loc) (ls : Array Slot), Wd g s v H locs → lv_has ls 4 [(0, .ref (g.2.2 (101))), (2, .int (x2))] → W p l e (rmm 5 120) s m args below meth c H locs 0 0 Q (F0 m 144 ls [])) : ∀ (n : Nat) (z : Int32 × St) {H : Heap} {locs : List Loc} {ls : Array Slot}, Wd g s z.2 H locs → lv_has ls 4 [(0, .ref (g.2.2 (101))), (2, .int (x2)), (3, .int (z.1))] → lp (f_X11_lists_l95 x2) n z = some r → W p l e (rmm 5 120) s m args below meth c H locs 0 0 Q (F0 m 95 ls []) := by
  intro n
  induction n with
  | zero => intro z H locs ls Y hl h; cases h
  | succ n ih =>
    intro z H locs ls Y hl h
    obtain ⟨w, h, hw⟩ := lps h
    have KB : ∀ (v0_ : Int32) (v1_ : St), w = .inl (v0_, v1_) → ∀ (H : Heap) (locs : List Loc) (ls : Array Slot), Wd g s v1_ H locs → lv_has ls 4 [(0, .ref (g.2.2 (101))), (2, .int (x2)), (3, .int (v0_))] → W p l e (rmm 5 120) s m args below meth c H locs 0 0 Q (F0 m 95 ls []) := fun v0_ v1_ e H locs ls Y hl => ih (v0_, v1_) Y hl (lpl hw e)
    have KX0 := fun (v : St) (e : w = .inr v) => KX0 v (lpr hw e)
    unfold f_X11_lists_l95 at h
    refine lv_iload_n X.1 X.2.1 (dk T_X11_lists 57 rfl) rfl (lv_at hl 2 rfl) ?_
    refine lv_aload_n X.1 X.2.1 (dk T_X11_lists 58 rfl) rfl (lv_at hl 0 rfl) ?_
    refine gg X Y fl_X11_292 rfl rfl (dk T_X11_lists 59 rfl) ?_
    refine lv_icmp_ge (tgt := 144) X.1 X.2.1 (dk T_X11_lists 60 rfl) rfl (fun c12 => ?_) (fun c12 => ?_)
    · replace h := ipos c12 h
      exact KX0 z.2 (Option.some.inj h).symm _ _ _ Y (lv_sub hl [0, 1] rfl)
    · replace h := ineg c12 h
      refine lv_aload_n X.1 X.2.1 (dk T_X11_lists 61 rfl) rfl (lv_at hl 0 rfl) ?_
      refine gg X Y fl_X11_59 rfl rfl (dk T_X11_lists 62 rfl) ?_
      refine lv_iload_n X.1 X.2.1 (dk T_X11_lists 63 rfl) rfl (lv_at hl 1 rfl) ?_
      refine lv_dup2_11 X.1 X.2.1 (dk T_X11_lists 64 rfl) rfl rfl ?_
      obtain ⟨g13, h⟩ := gd h
      refine gil X Y rfl (inp g13) (dk T_X11_lists 65 rfl) ?_
      refine lv_aload_n X.1 X.2.1 (dk T_X11_lists 66 rfl) rfl (lv_at hl 0 rfl) ?_
      refine lv_aload_n X.1 X.2.1 (dk T_X11_lists 67 rfl) rfl (lv_at hl 0 rfl) ?_
      refine gg X Y fl_X11_53 rfl rfl (dk T_X11_lists 68 rfl) ?_
      refine lv_iload_n X.1 X.2.1 (dk T_X11_lists 69 rfl) rfl (lv_at hl 2 rfl) ?_
      obtain ⟨g14, h⟩ := gd h
      refine gil X Y rfl (inp g14) (dk T_X11_lists 70 rfl) ?_
      refine lv_aload_n X.1 X.2.1 (dk T_X11_lists 71 rfl) rfl (lv_at hl 0 rfl) ?_
      refine gg X Y fl_X11_53 rfl rfl (dk T_X11_lists 72 rfl) ?_
      refine lv_iload_n X.1 X.2.1 (dk T_X11_lists 73 rfl) rfl (lv_at hl 1 rfl) ?_
      obtain ⟨g15, h⟩ := gd h
      refine gil X Y rfl (inp g15) (dk T_X11_lists 74 rfl) ?_
      obtain ⟨q16, hq16, h⟩ := bs h
      refine gvI (rest := [.int (z.2 118 x2.toNatClampNeg), .int (x2), .ref (g.2.2 (118))]) X Y (c_X11_isWithin (z.2 116 z.1.toNatClampNeg) (z.2 116 x2.toNatClampNeg) z.2 hq16) cb_X11_236 rfl hl.1 rfl rfl (Nat.le_of_ble_eq_true rfl) ⟨Nat.le_of_ble_eq_true rfl, Nat.le_of_ble_eq_true rfl⟩ (dk T_X11_lists 75 rfl) (fun H locs Y => ?_)
      refine lv_if_eq (tgt := 135) X.1 X.2.1 (dk T_X11_lists 76 rfl) rfl (fun c17 => ?_) (fun c17 => ?_)
      · replace h := ipos c17 h
        refine lv_iconst (v := 0) X.1 X.2.1 (dk T_X11_lists 81 rfl) ic_0 ?_
        exact w_X11_lists_j136 X x2 z.1 0 (z.2 118 x2.toNatClampNeg) x2 q16.2 KB KX0 Y (lv_sub hl [0, 1, 2] rfl) h
      · replace h := ineg c17 h
        refine lv_iconst (v := 1) X.1 X.2.1 (dk T_X11_lists 77 rfl) ic_1 ?_
        refine lv_iload_n X.1 X.2.1 (dk T_X11_lists 78 rfl) rfl (lv_at hl 2 rfl) ?_
        refine lv_ishl X.1 X.2.1 (dk T_X11_lists 79 rfl) ?_
        refine lv_goto (tgt := 136) X.1 X.2.1 (dk T_X11_lists 80 rfl) rfl ?_
        exact w_X11_lists_j136 X x2 z.1 ((1 : Int32) <<< (z.1 &&& 31)) (z.2 118 x2.toNatClampNeg) x2 q16.2 KB KX0 Y (lv_sub hl [0, 1, 2] rfl) h
def f_X11_lists_l78 (z : Int32 × St) : Option ((Int32 × St) ⊕ (St)) :=
  if (z.2 101 35) ≤ z.1 then some (.inr z.2) else chk (inb z.1 20) ((lp (f_X11_lists_l95 z.1) FU (0, up z.2 118 z.1.toNatClampNeg 0)).bind fun q19 => some (.inl (z.1 + 1, q19)))
set_option maxHeartbeats 4000000 in
set_option maxRecDepth 100000 in
theorem w_X11_lists_l78 (X : Cx g RX11 cX11_lists 4 none p s m args meth c) (σ : St) {r : St} (KX0 : ∀ (v : St), r = v → ∀ (H : Heap) (locs : List Loc) (ls : Array Slot), Wd g s v H locs → lv_has ls 4 [] → W p l e (rmm 5 120) s m args below meth c H locs 0 0 Q (F0 m 150 ls [])) : ∀ (n : Nat) (z : Int32 × St) {H : Heap} {locs : List Loc} {ls : Array Slot}, Wd g s z.2 H locs → lv_has ls 4 [(0, .ref (g.2.2 (101))), (2, .int (z.1))] → lp (f_X11_lists_l78) n z = some r → W p l e (rmm 5 120) s m args below meth c H locs 0 0 Q (F0 m 78 ls []) := by
  intro n
  induction n with
  | zero => intro z H locs ls Y hl h; cases h
  | succ n ih =>
    intro z H locs ls Y hl h
    obtain ⟨w, h, hw⟩ := lps h
    have KB : ∀ (v0_ : Int32) (v1_ : St), w = .inl (v0_, v1_) → ∀ (H : Heap) (locs : List Loc) (ls : Array Slot), Wd g s v1_ H locs → lv_has ls 4 [(0, .ref (g.2.2 (101))), (2, .int (v0_))] → W p l e (rmm 5 120) s m args below meth c H locs 0 0 Q (F0 m 78 ls []) := fun v0_ v1_ e H locs ls Y hl => ih (v0_, v1_) Y hl (lpl hw e)
    have KX0 := fun (v : St) (e : w = .inr v) => KX0 v (lpr hw e)
    unfold f_X11_lists_l78 at h
    refine lv_iload_n X.1 X.2.1 (dk T_X11_lists 46 rfl) rfl (lv_at hl 1 rfl) ?_
    refine lv_aload_n X.1 X.2.1 (dk T_X11_lists 47 rfl) rfl (lv_at hl 0 rfl) ?_
    refine gg X Y fl_X11_292 rfl rfl (dk T_X11_lists 48 rfl) ?_
    refine lv_icmp_ge (tgt := 150) X.1 X.2.1 (dk T_X11_lists 49 rfl) rfl (fun c10 => ?_) (fun c10 => ?_)
    · replace h := ipos c10 h
      exact KX0 z.2 (Option.some.inj h).symm _ _ _ Y (lv_sub hl [] rfl)
    · replace h := ineg c10 h
      refine lv_aload_n X.1 X.2.1 (dk T_X11_lists 50 rfl) rfl (lv_at hl 0 rfl) ?_
      refine gg X Y fl_X11_59 rfl rfl (dk T_X11_lists 51 rfl) ?_
      refine lv_iload_n X.1 X.2.1 (dk T_X11_lists 52 rfl) rfl (lv_at hl 1 rfl) ?_
      refine lv_iconst (v := 0) X.1 X.2.1 (dk T_X11_lists 53 rfl) ic_0 ?_
      obtain ⟨g11, h⟩ := gd h
      refine gis X Y rfl (inp g11) (dk T_X11_lists 54 rfl) (fun H locs Y => ?_)
      refine lv_iconst (v := 0) X.1 X.2.1 (dk T_X11_lists 55 rfl) ic_0 ?_
      refine lv_istore_n (lv' := [(3, .int (0)), (0, .ref (g.2.2 (101))), (2, .int (z.1))]) X.1 X.2.1 (dk T_X11_lists 56 rfl) rfl hl (Nat.le_of_ble_eq_true rfl) rfl (fun ls hl => ?_)
      obtain ⟨q19, hq19, h⟩ := bs h
      refine w_X11_lists_l95 X z.1 σ (fun v e H locs ls Y hl => ?_) FU (0, up z.2 118 z.1.toNatClampNeg 0) Y (lv_sub hl [1, 2, 0] rfl) hq19
      · obtain rfl := e
        refine lv_iinc (v := z.1 + 1) (lv' := [(2, .int (z.1 + 1)), (0, .ref (g.2.2 (101)))]) X.1 X.2.1 (dk T_X11_lists 86 rfl) hl (k := 1) rfl (icx ic_1) (Nat.le_of_ble_eq_true rfl) rfl (fun ls hl => ?_)
        refine lv_goto (tgt := 78) X.1 X.2.1 (dk T_X11_lists 87 rfl) rfl ?_
        exact KB (z.1 + 1) q19 (Option.some.inj h).symm _ _ _ Y (lv_sub hl [1, 0] rfl)
def f_X11_lists_0 (x1 : Int32) (σ : St) : Option (St) :=
  (f_X11_looks x1 σ).bind fun q1 => (lp (f_X11_lists_l12 x1) FU (0, up q1 101 35 0)).bind fun q9 => (lp (f_X11_lists_l78) FU (0, q9)).bind fun q20 => some q20
set_option maxHeartbeats 4000000 in
set_option maxRecDepth 100000 in
theorem w_X11_lists_0 (X : Cx g RX11 cX11_lists 4 none p s m args meth c) (x1 : Int32) (σ : St) {w : St} (KR : ∀ (H : Heap) (locs : List Loc) (ls : Array Slot) (pc : Nat), Wd g s w H locs → decode cX11_lists pc = .ok (.return_, 1) → W p l e (rmm 5 120) s m args below meth c H locs 0 0 Q (F0 m pc ls [])) {H : Heap} {locs : List Loc} {ls : Array Slot} (Y : Wd g s σ H locs) (hl : lv_has ls 4 [(0, .ref (g.2.2 (101))), (1, .int (x1))]) (h : f_X11_lists_0 x1 σ = some w) : W p l e (rmm 5 120) s m args below meth c H locs 0 0 Q (F0 m 0 ls []) := by
  unfold f_X11_lists_0 at h
  refine lv_aload_n X.1 X.2.1 (dk T_X11_lists 0 rfl) rfl (lv_at hl 0 rfl) ?_
  refine lv_iload_n X.1 X.2.1 (dk T_X11_lists 1 rfl) rfl (lv_at hl 1 rfl) ?_
  obtain ⟨q1, hq1, h⟩ := bs h
  refine gvV (rest := []) X Y (c_X11_looks x1 σ hq1) cb_X11_145 rfl hl.1 rfl rfl (Nat.le_of_ble_eq_true rfl) ⟨Nat.le_of_ble_eq_true rfl, Nat.le_of_ble_eq_true rfl⟩ (dk T_X11_lists 2 rfl) (fun H locs Y => ?_)
  refine lv_aload_n X.1 X.2.1 (dk T_X11_lists 3 rfl) rfl (lv_at hl 0 rfl) ?_
  refine lv_iconst (v := 0) X.1 X.2.1 (dk T_X11_lists 4 rfl) ic_0 ?_
  refine gp X Y fp_X11_292 rfl (nar_int _) (dk T_X11_lists 5 rfl) (fun H locs Y => ?_)
  refine lv_iconst (v := 0) X.1 X.2.1 (dk T_X11_lists 6 rfl) ic_0 ?_
  refine lv_istore_n (lv' := [(2, .int (0)), (0, .ref (g.2.2 (101))), (1, .int (x1))]) X.1 X.2.1 (dk T_X11_lists 7 rfl) rfl hl (Nat.le_of_ble_eq_true rfl) rfl (fun ls hl => ?_)
  obtain ⟨q9, hq9, h⟩ := bs h
  refine w_X11_lists_l12 X x1 σ (fun v e H locs ls Y hl => ?_) FU (0, up q1 101 35 0) Y (lv_sub hl [1, 2, 0] rfl) hq9
  · obtain rfl := e
    refine lv_iconst (v := 0) X.1 X.2.1 (dk T_X11_lists 44 rfl) ic_0 ?_
    refine lv_istore_n (lv' := [(2, .int (0)), (0, .ref (g.2.2 (101)))]) X.1 X.2.1 (dk T_X11_lists 45 rfl) rfl hl (Nat.le_of_ble_eq_true rfl) rfl (fun ls hl => ?_)
    obtain ⟨q20, hq20, h⟩ := bs h
    refine w_X11_lists_l78 X σ (fun v e H locs ls Y hl => ?_) FU (0, q9) Y (lv_sub hl [1, 0] rfl) hq20
    · obtain rfl := e
      obtain rfl := Option.some.inj h
      exact KR _ _ _ _ Y (dk T_X11_lists 88 rfl)
def f_X11_lists (x1 : Int32) (σ : St) : Option (St) := f_X11_lists_0 x1 σ
set_option maxHeartbeats 4000000 in
set_option maxRecDepth 100000 in
theorem c_X11_lists {l : Launch} {g : Geo} (x1 : Int32) (σ : St) {w : St} (h : f_X11_lists x1 σ = some w) : CtV l yX11_lists cX11_lists 4 none (rmm 5 120) g [.ref (g.2.2 (101)), .int (x1)] σ w := enV (by decide) rfl (Nat.le_of_ble_eq_true rfl) (fun p e s m args below meth c Q X Y ls hl KR => w_X11_lists_0 X x1 σ KR Y hl h)
def I_X11_far : List (Nat × Instr × Nat) := [(0, .aload_n 0, 1), (1, .getfield 7, 3), (4, .iconst 3, 1), (5, .iload_n 1, 1), (6, .iadd, 1), (7, .iaload, 1), (8, .istore 4, 2), (10, .iload_n 2, 1), (11, .iload 4, 2), (13, .irem, 1), (14, .iload_n 3, 1), (15, .iload 4, 2), (17, .irem, 1), (18, .isub, 1), (19, .istore 5, 2), (21, .iload_n 2, 1), (22, .iload 4, 2), (24, .idiv, 1), (25, .iload_n 3, 1), (26, .iload 4, 2), (28, .idiv, 1), (29, .isub, 1), (30, .istore 6, 2), (32, .iload 5, 2), (34, .ifCond .ge 9, 3), (37, .iload 5, 2), (39, .ineg, 1), (40, .goto 5, 3), (43, .iload 5, 2), (45, .iload 6, 2), (47, .ifCond .ge 9, 3), (50, .iload 6, 2), (52, .ineg, 1), (53, .goto 5, 3), (56, .iload 6, 2), (58, .iadd, 1), (59, .ireturn, 1)]
set_option maxRecDepth 100000 in
theorem T_X11_far : ∀ q ∈ I_X11_far, decode cX11_far q.1 = .ok (q.2.1, q.2.2) := by decide +kernel
def f_X11_far_j58 (s0 : Int32) (s1 : Int32) (σ : St) : Option (Int32) :=
  some (s1 + s0)
set_option maxHeartbeats 4000000 in
set_option maxRecDepth 100000 in
theorem w_X11_far_j58 (X : Cx g RX11 cX11_far 7 (some .int) p s m args meth c) (s0 : Int32) (s1 : Int32) (σ : St) {w : Int32} (KR : ∀ (H : Heap) (locs : List Loc) (ls : Array Slot) (pc : Nat), Wd g s σ H locs → decode cX11_far pc = .ok (.ireturn, 1) → W p l e (rmm 0 0) s m args below meth c H locs 0 0 Q (F0 m pc ls [.int (w)])) {H : Heap} {locs : List Loc} {ls : Array Slot} (Y : Wd g s σ H locs) (hl : lv_has ls 7 []) (h : f_X11_far_j58 s0 s1 σ = some w) : W p l e (rmm 0 0) s m args below meth c H locs 0 0 Q (F0 m 58 ls [.int (s0), .int (s1)]) := by
  unfold f_X11_far_j58 at h
  refine lv_iadd X.1 X.2.1 (dk T_X11_far 35 rfl) ?_
  obtain rfl := Option.some.inj h
  exact KR _ _ _ _ Y (dk T_X11_far 36 rfl)
def f_X11_far_j45 (x6 : Int32) (s0 : Int32) (σ : St) : Option (Int32) :=
  if 0 ≤ x6 then f_X11_far_j58 x6 s0 σ else f_X11_far_j58 (-x6) s0 σ
set_option maxHeartbeats 4000000 in
set_option maxRecDepth 100000 in
theorem w_X11_far_j45 (X : Cx g RX11 cX11_far 7 (some .int) p s m args meth c) (x6 : Int32) (s0 : Int32) (σ : St) {w : Int32} (KR : ∀ (H : Heap) (locs : List Loc) (ls : Array Slot) (pc : Nat), Wd g s σ H locs → decode cX11_far pc = .ok (.ireturn, 1) → W p l e (rmm 0 0) s m args below meth c H locs 0 0 Q (F0 m pc ls [.int (w)])) {H : Heap} {locs : List Loc} {ls : Array Slot} (Y : Wd g s σ H locs) (hl : lv_has ls 7 [(6, .int (x6))]) (h : f_X11_far_j45 x6 s0 σ = some w) : W p l e (rmm 0 0) s m args below meth c H locs 0 0 Q (F0 m 45 ls [.int (s0)]) := by
  unfold f_X11_far_j45 at h
  refine lv_iload X.1 X.2.1 (dk T_X11_far 29 rfl) (lv_at hl 0 rfl) ?_
  refine lv_if_ge (tgt := 56) X.1 X.2.1 (dk T_X11_far 30 rfl) rfl (fun c7 => ?_) (fun c7 => ?_)
  · replace h := ipos c7 h
    refine lv_iload X.1 X.2.1 (dk T_X11_far 34 rfl) (lv_at hl 0 rfl) ?_
    exact w_X11_far_j58 X x6 s0 σ KR Y (lv_sub hl [] rfl) h
  · replace h := ineg c7 h
    refine lv_iload X.1 X.2.1 (dk T_X11_far 31 rfl) (lv_at hl 0 rfl) ?_
    refine lv_ineg X.1 X.2.1 (dk T_X11_far 32 rfl) ?_
    refine lv_goto (tgt := 58) X.1 X.2.1 (dk T_X11_far 33 rfl) rfl ?_
    exact w_X11_far_j58 X (-x6) s0 σ KR Y (lv_sub hl [] rfl) h
def f_X11_far_0 (x1 : Int32) (x2 : Int32) (x3 : Int32) (σ : St) : Option (Int32) :=
  chk (inb (3 + x1) 761) (chk (nz (σ 102 (3 + x1).toNatClampNeg)) (chk (nz (σ 102 (3 + x1).toNatClampNeg)) (chk (nz (σ 102 (3 + x1).toNatClampNeg)) (chk (nz (σ 102 (3 + x1).toNatClampNeg)) (if 0 ≤ ((x2 - x2 / (σ 102 (3 + x1).toNatClampNeg) * (σ 102 (3 + x1).toNatClampNeg)) - (x3 - x3 / (σ 102 (3 + x1).toNatClampNeg) * (σ 102 (3 + x1).toNatClampNeg))) then f_X11_far_j45 ((x2 / (σ 102 (3 + x1).toNatClampNeg)) - (x3 / (σ 102 (3 + x1).toNatClampNeg))) ((x2 - x2 / (σ 102 (3 + x1).toNatClampNeg) * (σ 102 (3 + x1).toNatClampNeg)) - (x3 - x3 / (σ 102 (3 + x1).toNatClampNeg) * (σ 102 (3 + x1).toNatClampNeg))) σ else f_X11_far_j45 ((x2 / (σ 102 (3 + x1).toNatClampNeg)) - (x3 / (σ 102 (3 + x1).toNatClampNeg))) (-((x2 - x2 / (σ 102 (3 + x1).toNatClampNeg) * (σ 102 (3 + x1).toNatClampNeg)) - (x3 - x3 / (σ 102 (3 + x1).toNatClampNeg) * (σ 102 (3 + x1).toNatClampNeg)))) σ)))))
set_option maxHeartbeats 4000000 in
set_option maxRecDepth 100000 in
theorem w_X11_far_0 (X : Cx g RX11 cX11_far 7 (some .int) p s m args meth c) (x1 : Int32) (x2 : Int32) (x3 : Int32) (σ : St) {w : Int32} (KR : ∀ (H : Heap) (locs : List Loc) (ls : Array Slot) (pc : Nat), Wd g s σ H locs → decode cX11_far pc = .ok (.ireturn, 1) → W p l e (rmm 0 0) s m args below meth c H locs 0 0 Q (F0 m pc ls [.int (w)])) {H : Heap} {locs : List Loc} {ls : Array Slot} (Y : Wd g s σ H locs) (hl : lv_has ls 7 [(0, .ref (g.2.2 (101))), (1, .int (x1)), (2, .int (x2)), (3, .int (x3))]) (h : f_X11_far_0 x1 x2 x3 σ = some w) : W p l e (rmm 0 0) s m args below meth c H locs 0 0 Q (F0 m 0 ls []) := by
  unfold f_X11_far_0 at h
  refine lv_aload_n X.1 X.2.1 (dk T_X11_far 0 rfl) rfl (lv_at hl 0 rfl) ?_
  refine gg X Y fl_X11_7 rfl rfl (dk T_X11_far 1 rfl) ?_
  refine lv_iconst (v := 3) X.1 X.2.1 (dk T_X11_far 2 rfl) ic_3 ?_
  refine lv_iload_n X.1 X.2.1 (dk T_X11_far 3 rfl) rfl (lv_at hl 1 rfl) ?_
  refine lv_iadd X.1 X.2.1 (dk T_X11_far 4 rfl) ?_
  obtain ⟨g1, h⟩ := gd h
  refine gil X Y rfl (inp g1) (dk T_X11_far 5 rfl) ?_
  refine lv_istore (lv' := [(4, .int (σ 102 (3 + x1).toNatClampNeg)), (0, .ref (g.2.2 (101))), (1, .int (x1)), (2, .int (x2)), (3, .int (x3))]) X.1 X.2.1 (dk T_X11_far 6 rfl) hl (Nat.le_of_ble_eq_true rfl) rfl (fun ls hl => ?_)
  refine lv_iload_n X.1 X.2.1 (dk T_X11_far 7 rfl) rfl (lv_at hl 3 rfl) ?_
  refine lv_iload X.1 X.2.1 (dk T_X11_far 8 rfl) (lv_at hl 0 rfl) ?_
  obtain ⟨g2, h⟩ := gd h
  refine lv_irem X.1 X.2.1 (dk T_X11_far 9 rfl) (nzp g2) ?_
  refine lv_iload_n X.1 X.2.1 (dk T_X11_far 10 rfl) rfl (lv_at hl 4 rfl) ?_
  refine lv_iload X.1 X.2.1 (dk T_X11_far 11 rfl) (lv_at hl 0 rfl) ?_
  obtain ⟨g3, h⟩ := gd h
  refine lv_irem X.1 X.2.1 (dk T_X11_far 12 rfl) (nzp g3) ?_
  refine lv_isub X.1 X.2.1 (dk T_X11_far 13 rfl) ?_
  refine lv_istore (lv' := [(5, .int ((x2 - x2 / (σ 102 (3 + x1).toNatClampNeg) * (σ 102 (3 + x1).toNatClampNeg)) - (x3 - x3 / (σ 102 (3 + x1).toNatClampNeg) * (σ 102 (3 + x1).toNatClampNeg)))), (4, .int (σ 102 (3 + x1).toNatClampNeg)), (0, .ref (g.2.2 (101))), (1, .int (x1)), (2, .int (x2)), (3, .int (x3))]) X.1 X.2.1 (dk T_X11_far 14 rfl) hl (Nat.le_of_ble_eq_true rfl) rfl (fun ls hl => ?_)
  refine lv_iload_n X.1 X.2.1 (dk T_X11_far 15 rfl) rfl (lv_at hl 4 rfl) ?_
  refine lv_iload X.1 X.2.1 (dk T_X11_far 16 rfl) (lv_at hl 1 rfl) ?_
  obtain ⟨g4, h⟩ := gd h
  refine lv_idiv X.1 X.2.1 (dk T_X11_far 17 rfl) (nzp g4) ?_
  refine lv_iload_n X.1 X.2.1 (dk T_X11_far 18 rfl) rfl (lv_at hl 5 rfl) ?_
  refine lv_iload X.1 X.2.1 (dk T_X11_far 19 rfl) (lv_at hl 1 rfl) ?_
  obtain ⟨g5, h⟩ := gd h
  refine lv_idiv X.1 X.2.1 (dk T_X11_far 20 rfl) (nzp g5) ?_
  refine lv_isub X.1 X.2.1 (dk T_X11_far 21 rfl) ?_
  refine lv_istore (lv' := [(6, .int ((x2 / (σ 102 (3 + x1).toNatClampNeg)) - (x3 / (σ 102 (3 + x1).toNatClampNeg)))), (5, .int ((x2 - x2 / (σ 102 (3 + x1).toNatClampNeg) * (σ 102 (3 + x1).toNatClampNeg)) - (x3 - x3 / (σ 102 (3 + x1).toNatClampNeg) * (σ 102 (3 + x1).toNatClampNeg)))), (4, .int (σ 102 (3 + x1).toNatClampNeg)), (0, .ref (g.2.2 (101))), (1, .int (x1)), (2, .int (x2)), (3, .int (x3))]) X.1 X.2.1 (dk T_X11_far 22 rfl) hl (Nat.le_of_ble_eq_true rfl) rfl (fun ls hl => ?_)
  refine lv_iload X.1 X.2.1 (dk T_X11_far 23 rfl) (lv_at hl 1 rfl) ?_
  refine lv_if_ge (tgt := 43) X.1 X.2.1 (dk T_X11_far 24 rfl) rfl (fun c6 => ?_) (fun c6 => ?_)
  · replace h := ipos c6 h
    refine lv_iload X.1 X.2.1 (dk T_X11_far 28 rfl) (lv_at hl 1 rfl) ?_
    exact w_X11_far_j45 X ((x2 / (σ 102 (3 + x1).toNatClampNeg)) - (x3 / (σ 102 (3 + x1).toNatClampNeg))) ((x2 - x2 / (σ 102 (3 + x1).toNatClampNeg) * (σ 102 (3 + x1).toNatClampNeg)) - (x3 - x3 / (σ 102 (3 + x1).toNatClampNeg) * (σ 102 (3 + x1).toNatClampNeg))) σ KR Y (lv_sub hl [0] rfl) h
  · replace h := ineg c6 h
    refine lv_iload X.1 X.2.1 (dk T_X11_far 25 rfl) (lv_at hl 1 rfl) ?_
    refine lv_ineg X.1 X.2.1 (dk T_X11_far 26 rfl) ?_
    refine lv_goto (tgt := 45) X.1 X.2.1 (dk T_X11_far 27 rfl) rfl ?_
    exact w_X11_far_j45 X ((x2 / (σ 102 (3 + x1).toNatClampNeg)) - (x3 / (σ 102 (3 + x1).toNatClampNeg))) (-((x2 - x2 / (σ 102 (3 + x1).toNatClampNeg) * (σ 102 (3 + x1).toNatClampNeg)) - (x3 - x3 / (σ 102 (3 + x1).toNatClampNeg) * (σ 102 (3 + x1).toNatClampNeg)))) σ KR Y (lv_sub hl [0] rfl) h
def f_X11_far (x1 : Int32) (x2 : Int32) (x3 : Int32) (σ : St) : Option (Int32) := f_X11_far_0 x1 x2 x3 σ
set_option maxHeartbeats 4000000 in
set_option maxRecDepth 100000 in
theorem c_X11_far {l : Launch} {g : Geo} (x1 : Int32) (x2 : Int32) (x3 : Int32) (σ : St) {w : Int32} (h : f_X11_far x1 x2 x3 σ = some w) : CtI l yX11_far cX11_far 7 (some .int) (rmm 0 0) g [.ref (g.2.2 (101)), .int (x1), .int (x2), .int (x3)] σ w σ := enI .int (by decide) rfl rfl (Nat.le_of_ble_eq_true rfl) (fun p e s m args below meth c Q X Y ls hl KR => w_X11_far_0 X x1 x2 x3 σ KR Y hl h)
def I_X11_nearest : List (Nat × Instr × Nat) := [(0, .iconst 0, 1), (1, .istore_n 2, 1), (2, .iconst 0, 1), (3, .istore_n 3, 1), (4, .aload_n 0, 1), (5, .iconst 0, 1), (6, .putfield 295, 3), (9, .iconst 0, 1), (10, .istore 4, 2), (12, .iload 4, 2), (14, .aload_n 0, 1), (15, .getfield 292, 3), (18, .if_icmp .ge 155, 3), (21, .iconst (-1), 1), (22, .istore 5, 2), (24, .iconst 0, 1), (25, .istore 6, 2), (27, .iload 6, 2), (29, .aload_n 0, 1), (30, .getfield 292, 3), (33, .if_icmp .ge 88, 3), (36, .iload_n 2, 1), (37, .iload 6, 2), (39, .invokestatic 105, 3), (42, .ifCond .ne 21, 3), (45, .aload_n 0, 1), (46, .getfield 59, 3), (49, .iload 6, 2), (51, .iaload, 1), (52, .iload_n 2, 1), (53, .iconst (-1), 1), (54, .ixor, 1), (55, .iand, 1), (56, .ifCond .ne 7, 3), (59, .iconst 1, 1), (60, .goto 4, 3), (63, .iconst 0, 1), (64, .istore 7, 2), (66, .iload 7, 2), (68, .ifCond .eq 43, 3), (71, .iload 5, 2), (73, .iconst (-1), 1), (74, .if_icmp .eq 32, 3), (77, .aload_n 0, 1), (78, .iload_n 1, 1), (79, .iload_n 3, 1), (80, .aload_n 0, 1), (81, .getfield 56, 3), (84, .iload 6, 2), (86, .iaload, 1), (87, .invokevirtual 298, 3), (90, .aload_n 0, 1), (91, .iload_n 1, 1), (92, .iload_n 3, 1), (93, .aload_n 0, 1), (94, .getfield 56, 3), (97, .iload 5, 2), (99, .iaload, 1), (100, .invokevirtual 298, 3), (103, .if_icmp .ge 8, 3), (106, .iload 6, 2), (108, .goto 5, 3), (111, .iload 5, 2), (113, .istore 5, 2), (115, .iinc 6 1, 3), (118, .goto (-91), 3), (121, .aload_n 0, 1), (122, .getfield 62, 3), (125, .iload 4, 2), (127, .iload 5, 2), (129, .iastore, 1), (130, .aload_n 0, 1), (131, .dup, 1), (132, .getfield 295, 3), (135, .aload_n 0, 1), (136, .iload_n 1, 1), (137, .iload_n 3, 1), (138, .aload_n 0, 1), (139, .getfield 56, 3), (142, .iload 5, 2), (144, .iaload, 1), (145, .invokevirtual 298, 3), (148, .iadd, 1), (149, .putfield 295, 3), (152, .aload_n 0, 1), (153, .getfield 56, 3), (156, .iload 5, 2), (158, .iaload, 1), (159, .istore_n 3, 1), (160, .iload_n 2, 1), (161, .iconst 1, 1), (162, .iload 5, 2), (164, .ishl, 1), (165, .ior, 1), (166, .istore_n 2, 1), (167, .iinc 4 1, 3), (170, .goto (-158), 3), (173, .return_, 1)]
set_option maxRecDepth 100000 in
theorem T_X11_nearest : ∀ q ∈ I_X11_nearest, decode cX11_nearest q.1 = .ok (q.2.1, q.2.2) := by decide +kernel
def f_X11_nearest_j113 (x1 : Int32) (x2 : Int32) (x3 : Int32) (x4 : Int32) (x6 : Int32) (s0 : Int32) (σ : St) : Option ((Int32 × Int32) ⊕ (Int32)) :=
  some (.inl (s0, x6 + 1))
set_option maxHeartbeats 4000000 in
set_option maxRecDepth 100000 in
theorem w_X11_nearest_j113 (X : Cx g RX11 cX11_nearest 8 none p s m args meth c) (x1 : Int32) (x2 : Int32) (x3 : Int32) (x4 : Int32) (x6 : Int32) (s0 : Int32) (σ : St) {w : (Int32 × Int32) ⊕ (Int32)} (KB : ∀ (v0_ : Int32) (v1_ : Int32), w = .inl (v0_, v1_) → ∀ (H : Heap) (locs : List Loc) (ls : Array Slot), Wd g s σ H locs → lv_has ls 8 [(0, .ref (g.2.2 (101))), (1, .int (x1)), (2, .int (x2)), (3, .int (x3)), (4, .int (x4)), (5, .int (v0_)), (6, .int (v1_))] → W p l e (rmm 1 26) s m args below meth c H locs 0 0 Q (F0 m 27 ls [])) (KX0 : ∀ (v : Int32), w = .inr v → ∀ (H : Heap) (locs : List Loc) (ls : Array Slot), Wd g s σ H locs → lv_has ls 8 [(0, .ref (g.2.2 (101))), (1, .int (x1)), (2, .int (x2)), (3, .int (x3)), (4, .int (x4)), (5, .int (v))] → W p l e (rmm 1 26) s m args below meth c H locs 0 0 Q (F0 m 121 ls [])) {H : Heap} {locs : List Loc} {ls : Array Slot} (Y : Wd g s σ H locs) (hl : lv_has ls 8 [(0, .ref (g.2.2 (101))), (1, .int (x1)), (2, .int (x2)), (3, .int (x3)), (4, .int (x4)), (6, .int (x6))]) (h : f_X11_nearest_j113 x1 x2 x3 x4 x6 s0 σ = some w) : W p l e (rmm 1 26) s m args below meth c H locs 0 0 Q (F0 m 113 ls [.int (s0)]) := by
  unfold f_X11_nearest_j113 at h
  refine lv_istore (lv' := [(5, .int (s0)), (0, .ref (g.2.2 (101))), (1, .int (x1)), (2, .int (x2)), (3, .int (x3)), (4, .int (x4)), (6, .int (x6))]) X.1 X.2.1 (dk T_X11_nearest 63 rfl) hl (Nat.le_of_ble_eq_true rfl) rfl (fun ls hl => ?_)
  refine lv_iinc (v := x6 + 1) (lv' := [(6, .int (x6 + 1)), (5, .int (s0)), (0, .ref (g.2.2 (101))), (1, .int (x1)), (2, .int (x2)), (3, .int (x3)), (4, .int (x4))]) X.1 X.2.1 (dk T_X11_nearest 64 rfl) hl (k := 6) rfl (icx ic_1) (Nat.le_of_ble_eq_true rfl) rfl (fun ls hl => ?_)
  refine lv_goto (tgt := 27) X.1 X.2.1 (dk T_X11_nearest 65 rfl) rfl ?_
  exact KB s0 (x6 + 1) (Option.some.inj h).symm _ _ _ Y (lv_sub hl [2, 3, 4, 5, 6, 1, 0] rfl)
def f_X11_nearest_j111 (x1 : Int32) (x2 : Int32) (x3 : Int32) (x4 : Int32) (x5 : Int32) (x6 : Int32) (σ : St) : Option ((Int32 × Int32) ⊕ (Int32)) :=
  f_X11_nearest_j113 x1 x2 x3 x4 x6 x5 σ
set_option maxHeartbeats 4000000 in
set_option maxRecDepth 100000 in
theorem w_X11_nearest_j111 (X : Cx g RX11 cX11_nearest 8 none p s m args meth c) (x1 : Int32) (x2 : Int32) (x3 : Int32) (x4 : Int32) (x5 : Int32) (x6 : Int32) (σ : St) {w : (Int32 × Int32) ⊕ (Int32)} (KB : ∀ (v0_ : Int32) (v1_ : Int32), w = .inl (v0_, v1_) → ∀ (H : Heap) (locs : List Loc) (ls : Array Slot), Wd g s σ H locs → lv_has ls 8 [(0, .ref (g.2.2 (101))), (1, .int (x1)), (2, .int (x2)), (3, .int (x3)), (4, .int (x4)), (5, .int (v0_)), (6, .int (v1_))] → W p l e (rmm 1 26) s m args below meth c H locs 0 0 Q (F0 m 27 ls [])) (KX0 : ∀ (v : Int32), w = .inr v → ∀ (H : Heap) (locs : List Loc) (ls : Array Slot), Wd g s σ H locs → lv_has ls 8 [(0, .ref (g.2.2 (101))), (1, .int (x1)), (2, .int (x2)), (3, .int (x3)), (4, .int (x4)), (5, .int (v))] → W p l e (rmm 1 26) s m args below meth c H locs 0 0 Q (F0 m 121 ls [])) {H : Heap} {locs : List Loc} {ls : Array Slot} (Y : Wd g s σ H locs) (hl : lv_has ls 8 [(0, .ref (g.2.2 (101))), (1, .int (x1)), (2, .int (x2)), (3, .int (x3)), (4, .int (x4)), (5, .int (x5)), (6, .int (x6))]) (h : f_X11_nearest_j111 x1 x2 x3 x4 x5 x6 σ = some w) : W p l e (rmm 1 26) s m args below meth c H locs 0 0 Q (F0 m 111 ls []) := by
  unfold f_X11_nearest_j111 at h
  refine lv_iload X.1 X.2.1 (dk T_X11_nearest 62 rfl) (lv_at hl 5 rfl) ?_
  exact w_X11_nearest_j113 X x1 x2 x3 x4 x6 x5 σ KB KX0 Y (lv_sub hl [0, 1, 2, 3, 4, 6] rfl) h
def f_X11_nearest_j106 (x1 : Int32) (x2 : Int32) (x3 : Int32) (x4 : Int32) (x6 : Int32) (σ : St) : Option ((Int32 × Int32) ⊕ (Int32)) :=
  f_X11_nearest_j113 x1 x2 x3 x4 x6 x6 σ
set_option maxHeartbeats 4000000 in
set_option maxRecDepth 100000 in
theorem w_X11_nearest_j106 (X : Cx g RX11 cX11_nearest 8 none p s m args meth c) (x1 : Int32) (x2 : Int32) (x3 : Int32) (x4 : Int32) (x6 : Int32) (σ : St) {w : (Int32 × Int32) ⊕ (Int32)} (KB : ∀ (v0_ : Int32) (v1_ : Int32), w = .inl (v0_, v1_) → ∀ (H : Heap) (locs : List Loc) (ls : Array Slot), Wd g s σ H locs → lv_has ls 8 [(0, .ref (g.2.2 (101))), (1, .int (x1)), (2, .int (x2)), (3, .int (x3)), (4, .int (x4)), (5, .int (v0_)), (6, .int (v1_))] → W p l e (rmm 1 26) s m args below meth c H locs 0 0 Q (F0 m 27 ls [])) (KX0 : ∀ (v : Int32), w = .inr v → ∀ (H : Heap) (locs : List Loc) (ls : Array Slot), Wd g s σ H locs → lv_has ls 8 [(0, .ref (g.2.2 (101))), (1, .int (x1)), (2, .int (x2)), (3, .int (x3)), (4, .int (x4)), (5, .int (v))] → W p l e (rmm 1 26) s m args below meth c H locs 0 0 Q (F0 m 121 ls [])) {H : Heap} {locs : List Loc} {ls : Array Slot} (Y : Wd g s σ H locs) (hl : lv_has ls 8 [(0, .ref (g.2.2 (101))), (1, .int (x1)), (2, .int (x2)), (3, .int (x3)), (4, .int (x4)), (6, .int (x6))]) (h : f_X11_nearest_j106 x1 x2 x3 x4 x6 σ = some w) : W p l e (rmm 1 26) s m args below meth c H locs 0 0 Q (F0 m 106 ls []) := by
  unfold f_X11_nearest_j106 at h
  refine lv_iload X.1 X.2.1 (dk T_X11_nearest 60 rfl) (lv_at hl 5 rfl) ?_
  refine lv_goto (tgt := 113) X.1 X.2.1 (dk T_X11_nearest 61 rfl) rfl ?_
  exact w_X11_nearest_j113 X x1 x2 x3 x4 x6 x6 σ KB KX0 Y (lv_sub hl [0, 1, 2, 3, 4, 5] rfl) h
def f_X11_nearest_j64 (x1 : Int32) (x2 : Int32) (x3 : Int32) (x4 : Int32) (x5 : Int32) (x6 : Int32) (s0 : Int32) (σ : St) : Option ((Int32 × Int32) ⊕ (Int32)) :=
  if s0 = 0 then f_X11_nearest_j111 x1 x2 x3 x4 x5 x6 σ else if x5 = (-1) then f_X11_nearest_j106 x1 x2 x3 x4 x6 σ else chk (inb x6 20) ((f_X11_far x1 x3 (σ 117 x6.toNatClampNeg) σ).bind fun q8 => chk (inb x5 20) ((f_X11_far x1 x3 (σ 117 x5.toNatClampNeg) σ).bind fun q10 => if q10 ≤ q8 then f_X11_nearest_j111 x1 x2 x3 x4 x5 x6 σ else f_X11_nearest_j106 x1 x2 x3 x4 x6 σ))
set_option maxHeartbeats 4000000 in
set_option maxRecDepth 100000 in
theorem w_X11_nearest_j64 (X : Cx g RX11 cX11_nearest 8 none p s m args meth c) (x1 : Int32) (x2 : Int32) (x3 : Int32) (x4 : Int32) (x5 : Int32) (x6 : Int32) (s0 : Int32) (σ : St) {w : (Int32 × Int32) ⊕ (Int32)} (KB : ∀ (v0_ : Int32) (v1_ : Int32), w = .inl (v0_, v1_) → ∀ (H : Heap) (locs : List Loc) (ls : Array Slot), Wd g s σ H locs → lv_has ls 8 [(0, .ref (g.2.2 (101))), (1, .int (x1)), (2, .int (x2)), (3, .int (x3)), (4, .int (x4)), (5, .int (v0_)), (6, .int (v1_))] → W p l e (rmm 1 26) s m args below meth c H locs 0 0 Q (F0 m 27 ls [])) (KX0 : ∀ (v : Int32), w = .inr v → ∀ (H : Heap) (locs : List Loc) (ls : Array Slot), Wd g s σ H locs → lv_has ls 8 [(0, .ref (g.2.2 (101))), (1, .int (x1)), (2, .int (x2)), (3, .int (x3)), (4, .int (x4)), (5, .int (v))] → W p l e (rmm 1 26) s m args below meth c H locs 0 0 Q (F0 m 121 ls [])) {H : Heap} {locs : List Loc} {ls : Array Slot} (Y : Wd g s σ H locs) (hl : lv_has ls 8 [(0, .ref (g.2.2 (101))), (1, .int (x1)), (2, .int (x2)), (3, .int (x3)), (4, .int (x4)), (5, .int (x5)), (6, .int (x6))]) (h : f_X11_nearest_j64 x1 x2 x3 x4 x5 x6 s0 σ = some w) : W p l e (rmm 1 26) s m args below meth c H locs 0 0 Q (F0 m 64 ls [.int (s0)]) := by
  unfold f_X11_nearest_j64 at h
  refine lv_istore (lv' := [(7, .int (s0)), (0, .ref (g.2.2 (101))), (1, .int (x1)), (2, .int (x2)), (3, .int (x3)), (4, .int (x4)), (5, .int (x5)), (6, .int (x6))]) X.1 X.2.1 (dk T_X11_nearest 37 rfl) hl (Nat.le_of_ble_eq_true rfl) rfl (fun ls hl => ?_)
  refine lv_iload X.1 X.2.1 (dk T_X11_nearest 38 rfl) (lv_at hl 0 rfl) ?_
  refine lv_if_eq (tgt := 111) X.1 X.2.1 (dk T_X11_nearest 39 rfl) rfl (fun c5 => ?_) (fun c5 => ?_)
  · replace h := ipos c5 h
    exact w_X11_nearest_j111 X x1 x2 x3 x4 x5 x6 σ KB KX0 Y (lv_sub hl [1, 2, 3, 4, 5, 6, 7] rfl) h
  · replace h := ineg c5 h
    refine lv_iload X.1 X.2.1 (dk T_X11_nearest 40 rfl) (lv_at hl 6 rfl) ?_
    refine lv_iconst (v := (-1)) X.1 X.2.1 (dk T_X11_nearest 41 rfl) ic_m1 ?_
    refine lv_icmp_eq (tgt := 106) X.1 X.2.1 (dk T_X11_nearest 42 rfl) rfl (fun c6 => ?_) (fun c6 => ?_)
    · replace h := ipos c6 h
      exact w_X11_nearest_j106 X x1 x2 x3 x4 x6 σ KB KX0 Y (lv_sub hl [1, 2, 3, 4, 5, 7] rfl) h
    · replace h := ineg c6 h
      refine lv_aload_n X.1 X.2.1 (dk T_X11_nearest 43 rfl) rfl (lv_at hl 1 rfl) ?_
      refine lv_iload_n X.1 X.2.1 (dk T_X11_nearest 44 rfl) rfl (lv_at hl 2 rfl) ?_
      refine lv_iload_n X.1 X.2.1 (dk T_X11_nearest 45 rfl) rfl (lv_at hl 4 rfl) ?_
      refine lv_aload_n X.1 X.2.1 (dk T_X11_nearest 46 rfl) rfl (lv_at hl 1 rfl) ?_
      refine gg X Y fl_X11_56 rfl rfl (dk T_X11_nearest 47 rfl) ?_
      refine lv_iload X.1 X.2.1 (dk T_X11_nearest 48 rfl) (lv_at hl 7 rfl) ?_
      obtain ⟨g7, h⟩ := gd h
      refine gil X Y rfl (inp g7) (dk T_X11_nearest 49 rfl) ?_
      obtain ⟨q8, hq8, h⟩ := bs h
      refine gvI (rest := []) X Y (c_X11_far x1 x3 (σ 117 x6.toNatClampNeg) σ hq8) cb_X11_298 rfl hl.1 rfl rfl (Nat.le_of_ble_eq_true rfl) ⟨Nat.le_of_ble_eq_true rfl, Nat.le_of_ble_eq_true rfl⟩ (dk T_X11_nearest 50 rfl) (fun H locs Y => ?_)
      refine lv_aload_n X.1 X.2.1 (dk T_X11_nearest 51 rfl) rfl (lv_at hl 1 rfl) ?_
      refine lv_iload_n X.1 X.2.1 (dk T_X11_nearest 52 rfl) rfl (lv_at hl 2 rfl) ?_
      refine lv_iload_n X.1 X.2.1 (dk T_X11_nearest 53 rfl) rfl (lv_at hl 4 rfl) ?_
      refine lv_aload_n X.1 X.2.1 (dk T_X11_nearest 54 rfl) rfl (lv_at hl 1 rfl) ?_
      refine gg X Y fl_X11_56 rfl rfl (dk T_X11_nearest 55 rfl) ?_
      refine lv_iload X.1 X.2.1 (dk T_X11_nearest 56 rfl) (lv_at hl 6 rfl) ?_
      obtain ⟨g9, h⟩ := gd h
      refine gil X Y rfl (inp g9) (dk T_X11_nearest 57 rfl) ?_
      obtain ⟨q10, hq10, h⟩ := bs h
      refine gvI (rest := [.int (q8)]) X Y (c_X11_far x1 x3 (σ 117 x5.toNatClampNeg) σ hq10) cb_X11_298 rfl hl.1 rfl rfl (Nat.le_of_ble_eq_true rfl) ⟨Nat.le_of_ble_eq_true rfl, Nat.le_of_ble_eq_true rfl⟩ (dk T_X11_nearest 58 rfl) (fun H locs Y => ?_)
      refine lv_icmp_ge (tgt := 111) X.1 X.2.1 (dk T_X11_nearest 59 rfl) rfl (fun c11 => ?_) (fun c11 => ?_)
      · replace h := ipos c11 h
        exact w_X11_nearest_j111 X x1 x2 x3 x4 x5 x6 σ KB KX0 Y (lv_sub hl [1, 2, 3, 4, 5, 6, 7] rfl) h
      · replace h := ineg c11 h
        exact w_X11_nearest_j106 X x1 x2 x3 x4 x6 σ KB KX0 Y (lv_sub hl [1, 2, 3, 4, 5, 7] rfl) h
def f_X11_nearest_j63 (x1 : Int32) (x2 : Int32) (x3 : Int32) (x4 : Int32) (x5 : Int32) (x6 : Int32) (σ : St) : Option ((Int32 × Int32) ⊕ (Int32)) :=
  f_X11_nearest_j64 x1 x2 x3 x4 x5 x6 0 σ
set_option maxHeartbeats 4000000 in
set_option maxRecDepth 100000 in
theorem w_X11_nearest_j63 (X : Cx g RX11 cX11_nearest 8 none p s m args meth c) (x1 : Int32) (x2 : Int32) (x3 : Int32) (x4 : Int32) (x5 : Int32) (x6 : Int32) (σ : St) {w : (Int32 × Int32) ⊕ (Int32)} (KB : ∀ (v0_ : Int32) (v1_ : Int32), w = .inl (v0_, v1_) → ∀ (H : Heap) (locs : List Loc) (ls : Array Slot), Wd g s σ H locs → lv_has ls 8 [(0, .ref (g.2.2 (101))), (1, .int (x1)), (2, .int (x2)), (3, .int (x3)), (4, .int (x4)), (5, .int (v0_)), (6, .int (v1_))] → W p l e (rmm 1 26) s m args below meth c H locs 0 0 Q (F0 m 27 ls [])) (KX0 : ∀ (v : Int32), w = .inr v → ∀ (H : Heap) (locs : List Loc) (ls : Array Slot), Wd g s σ H locs → lv_has ls 8 [(0, .ref (g.2.2 (101))), (1, .int (x1)), (2, .int (x2)), (3, .int (x3)), (4, .int (x4)), (5, .int (v))] → W p l e (rmm 1 26) s m args below meth c H locs 0 0 Q (F0 m 121 ls [])) {H : Heap} {locs : List Loc} {ls : Array Slot} (Y : Wd g s σ H locs) (hl : lv_has ls 8 [(0, .ref (g.2.2 (101))), (1, .int (x1)), (2, .int (x2)), (3, .int (x3)), (4, .int (x4)), (5, .int (x5)), (6, .int (x6))]) (h : f_X11_nearest_j63 x1 x2 x3 x4 x5 x6 σ = some w) : W p l e (rmm 1 26) s m args below meth c H locs 0 0 Q (F0 m 63 ls []) := by
  unfold f_X11_nearest_j63 at h
  refine lv_iconst (v := 0) X.1 X.2.1 (dk T_X11_nearest 36 rfl) ic_0 ?_
  exact w_X11_nearest_j64 X x1 x2 x3 x4 x5 x6 0 σ KB KX0 Y (lv_sub hl [0, 1, 2, 3, 4, 5, 6] rfl) h
def f_X11_nearest_l27 (x1 : Int32) (x2 : Int32) (x3 : Int32) (x4 : Int32) (σ : St) (z : Int32 × Int32) : Option ((Int32 × Int32) ⊕ (Int32)) :=
  if (σ 101 35) ≤ z.2 then some (.inr z.1) else (f_X11_has x2 z.2).bind fun q3 => if q3 = 0 then chk (inb z.2 20) (if ((σ 118 z.2.toNatClampNeg) &&& (x2 ^^^ (-1))) = 0 then f_X11_nearest_j64 x1 x2 x3 x4 z.1 z.2 1 σ else f_X11_nearest_j63 x1 x2 x3 x4 z.1 z.2 σ) else f_X11_nearest_j63 x1 x2 x3 x4 z.1 z.2 σ
set_option maxHeartbeats 4000000 in
set_option maxRecDepth 100000 in
theorem w_X11_nearest_l27 (X : Cx g RX11 cX11_nearest 8 none p s m args meth c) (x1 : Int32) (x2 : Int32) (x3 : Int32) (x4 : Int32) (σ : St) {r : Int32} (KX0 : ∀ (v : Int32), r = v → ∀ (H : Heap) (locs : List Loc) (ls : Array Slot), Wd g s σ H locs → lv_has ls 8 [(0, .ref (g.2.2 (101))), (1, .int (x1)), (2, .int (x2)), (3, .int (x3)), (4, .int (x4)), (5, .int (v))] → W p l e (rmm 1 26) s m args below meth c H locs 0 0 Q (F0 m 121 ls [])) : ∀ (n : Nat) (z : Int32 × Int32) {H : Heap} {locs : List Loc} {ls : Array Slot}, Wd g s σ H locs → lv_has ls 8 [(0, .ref (g.2.2 (101))), (1, .int (x1)), (2, .int (x2)), (3, .int (x3)), (4, .int (x4)), (5, .int (z.1)), (6, .int (z.2))] → lp (f_X11_nearest_l27 x1 x2 x3 x4 σ) n z = some r → W p l e (rmm 1 26) s m args below meth c H locs 0 0 Q (F0 m 27 ls []) := by
  intro n
  induction n with
  | zero => intro z H locs ls Y hl h; cases h
  | succ n ih =>
    intro z H locs ls Y hl h
    obtain ⟨w, h, hw⟩ := lps h
    have KB : ∀ (v0_ : Int32) (v1_ : Int32), w = .inl (v0_, v1_) → ∀ (H : Heap) (locs : List Loc) (ls : Array Slot), Wd g s σ H locs → lv_has ls 8 [(0, .ref (g.2.2 (101))), (1, .int (x1)), (2, .int (x2)), (3, .int (x3)), (4, .int (x4)), (5, .int (v0_)), (6, .int (v1_))] → W p l e (rmm 1 26) s m args below meth c H locs 0 0 Q (F0 m 27 ls []) := fun v0_ v1_ e H locs ls Y hl => ih (v0_, v1_) Y hl (lpl hw e)
    have KX0 := fun (v : Int32) (e : w = .inr v) => KX0 v (lpr hw e)
    unfold f_X11_nearest_l27 at h
    refine lv_iload X.1 X.2.1 (dk T_X11_nearest 17 rfl) (lv_at hl 6 rfl) ?_
    refine lv_aload_n X.1 X.2.1 (dk T_X11_nearest 18 rfl) rfl (lv_at hl 0 rfl) ?_
    refine gg X Y fl_X11_292 rfl rfl (dk T_X11_nearest 19 rfl) ?_
    refine lv_icmp_ge (tgt := 121) X.1 X.2.1 (dk T_X11_nearest 20 rfl) rfl (fun c2 => ?_) (fun c2 => ?_)
    · replace h := ipos c2 h
      exact KX0 z.1 (Option.some.inj h).symm _ _ _ Y (lv_sub hl [0, 1, 2, 3, 4, 5] rfl)
    · replace h := ineg c2 h
      refine lv_iload_n X.1 X.2.1 (dk T_X11_nearest 21 rfl) rfl (lv_at hl 2 rfl) ?_
      refine lv_iload X.1 X.2.1 (dk T_X11_nearest 22 rfl) (lv_at hl 6 rfl) ?_
      obtain ⟨q3, hq3, h⟩ := bs h
      refine gsI (rest := []) X Y (c_X11_has x2 z.2 σ hq3) cb_X11_105 hl.1 rfl rfl (Nat.le_of_ble_eq_true rfl) ⟨Nat.le_of_ble_eq_true rfl, Nat.le_of_ble_eq_true rfl⟩ (dk T_X11_nearest 23 rfl) (fun H locs Y => ?_)
      refine lv_if_ne (tgt := 63) X.1 X.2.1 (dk T_X11_nearest 24 rfl) rfl (fun c4 => ?_) (fun c4 => ?_)
      · replace h := ineg c4 h
        exact w_X11_nearest_j63 X x1 x2 x3 x4 z.1 z.2 σ KB KX0 Y (lv_sub hl [0, 1, 2, 3, 4, 5, 6] rfl) h
      · replace h := ipos c4 h
        refine lv_aload_n X.1 X.2.1 (dk T_X11_nearest 25 rfl) rfl (lv_at hl 0 rfl) ?_
        refine gg X Y fl_X11_59 rfl rfl (dk T_X11_nearest 26 rfl) ?_
        refine lv_iload X.1 X.2.1 (dk T_X11_nearest 27 rfl) (lv_at hl 6 rfl) ?_
        obtain ⟨g12, h⟩ := gd h
        refine gil X Y rfl (inp g12) (dk T_X11_nearest 28 rfl) ?_
        refine lv_iload_n X.1 X.2.1 (dk T_X11_nearest 29 rfl) rfl (lv_at hl 2 rfl) ?_
        refine lv_iconst (v := (-1)) X.1 X.2.1 (dk T_X11_nearest 30 rfl) ic_m1 ?_
        refine lv_ixor X.1 X.2.1 (dk T_X11_nearest 31 rfl) ?_
        refine lv_iand X.1 X.2.1 (dk T_X11_nearest 32 rfl) ?_
        refine lv_if_ne (tgt := 63) X.1 X.2.1 (dk T_X11_nearest 33 rfl) rfl (fun c13 => ?_) (fun c13 => ?_)
        · replace h := ineg c13 h
          exact w_X11_nearest_j63 X x1 x2 x3 x4 z.1 z.2 σ KB KX0 Y (lv_sub hl [0, 1, 2, 3, 4, 5, 6] rfl) h
        · replace h := ipos c13 h
          refine lv_iconst (v := 1) X.1 X.2.1 (dk T_X11_nearest 34 rfl) ic_1 ?_
          refine lv_goto (tgt := 64) X.1 X.2.1 (dk T_X11_nearest 35 rfl) rfl ?_
          exact w_X11_nearest_j64 X x1 x2 x3 x4 z.1 z.2 1 σ KB KX0 Y (lv_sub hl [0, 1, 2, 3, 4, 5, 6] rfl) h
def f_X11_nearest_l12 (x1 : Int32) (z : Int32 × Int32 × Int32 × St) : Option ((Int32 × Int32 × Int32 × St) ⊕ (St)) :=
  if (z.2.2.2 101 35) ≤ z.2.2.1 then some (.inr z.2.2.2) else (lp (f_X11_nearest_l27 x1 z.1 z.2.1 z.2.2.1 z.2.2.2) FU ((-1), 0)).bind fun q14 => chk (inb z.2.2.1 20) (chk (inb q14 20) ((f_X11_far x1 z.2.1 ((up z.2.2.2 119 z.2.2.1.toNatClampNeg q14) 117 q14.toNatClampNeg) (up z.2.2.2 119 z.2.2.1.toNatClampNeg q14)).bind fun q17 => chk (inb q14 20) (some (.inl (z.1 ||| ((1 : Int32) <<< (q14 &&& 31)), (up (up z.2.2.2 119 z.2.2.1.toNatClampNeg q14) 101 36 ((up z.2.2.2 119 z.2.2.1.toNatClampNeg q14 101 36) + q17)) 117 q14.toNatClampNeg, z.2.2.1 + 1, up (up z.2.2.2 119 z.2.2.1.toNatClampNeg q14) 101 36 ((up z.2.2.2 119 z.2.2.1.toNatClampNeg q14 101 36) + q17))))))
set_option maxHeartbeats 4000000 in
set_option maxRecDepth 100000 in
theorem w_X11_nearest_l12 (X : Cx g RX11 cX11_nearest 8 none p s m args meth c) (x1 : Int32) (σ : St) {r : St} (KX0 : ∀ (v : St), r = v → ∀ (H : Heap) (locs : List Loc) (ls : Array Slot), Wd g s v H locs → lv_has ls 8 [] → W p l e (rmm 1 26) s m args below meth c H locs 0 0 Q (F0 m 173 ls [])) : ∀ (n : Nat) (z : Int32 × Int32 × Int32 × St) {H : Heap} {locs : List Loc} {ls : Array Slot}, Wd g s z.2.2.2 H locs → lv_has ls 8 [(0, .ref (g.2.2 (101))), (1, .int (x1)), (2, .int (z.1)), (3, .int (z.2.1)), (4, .int (z.2.2.1))] → lp (f_X11_nearest_l12 x1) n z = some r → W p l e (rmm 1 26) s m args below meth c H locs 0 0 Q (F0 m 12 ls []) := by
  intro n
  induction n with
  | zero => intro z H locs ls Y hl h; cases h
  | succ n ih =>
    intro z H locs ls Y hl h
    obtain ⟨w, h, hw⟩ := lps h
    have KB : ∀ (v0_ : Int32) (v1_ : Int32) (v2_ : Int32) (v3_ : St), w = .inl (v0_, v1_, v2_, v3_) → ∀ (H : Heap) (locs : List Loc) (ls : Array Slot), Wd g s v3_ H locs → lv_has ls 8 [(0, .ref (g.2.2 (101))), (1, .int (x1)), (2, .int (v0_)), (3, .int (v1_)), (4, .int (v2_))] → W p l e (rmm 1 26) s m args below meth c H locs 0 0 Q (F0 m 12 ls []) := fun v0_ v1_ v2_ v3_ e H locs ls Y hl => ih (v0_, v1_, v2_, v3_) Y hl (lpl hw e)
    have KX0 := fun (v : St) (e : w = .inr v) => KX0 v (lpr hw e)
    unfold f_X11_nearest_l12 at h
    refine lv_iload X.1 X.2.1 (dk T_X11_nearest 9 rfl) (lv_at hl 4 rfl) ?_
    refine lv_aload_n X.1 X.2.1 (dk T_X11_nearest 10 rfl) rfl (lv_at hl 0 rfl) ?_
    refine gg X Y fl_X11_292 rfl rfl (dk T_X11_nearest 11 rfl) ?_
    refine lv_icmp_ge (tgt := 173) X.1 X.2.1 (dk T_X11_nearest 12 rfl) rfl (fun c1 => ?_) (fun c1 => ?_)
    · replace h := ipos c1 h
      exact KX0 z.2.2.2 (Option.some.inj h).symm _ _ _ Y (lv_sub hl [] rfl)
    · replace h := ineg c1 h
      refine lv_iconst (v := (-1)) X.1 X.2.1 (dk T_X11_nearest 13 rfl) ic_m1 ?_
      refine lv_istore (lv' := [(5, .int ((-1))), (0, .ref (g.2.2 (101))), (1, .int (x1)), (2, .int (z.1)), (3, .int (z.2.1)), (4, .int (z.2.2.1))]) X.1 X.2.1 (dk T_X11_nearest 14 rfl) hl (Nat.le_of_ble_eq_true rfl) rfl (fun ls hl => ?_)
      refine lv_iconst (v := 0) X.1 X.2.1 (dk T_X11_nearest 15 rfl) ic_0 ?_
      refine lv_istore (lv' := [(6, .int (0)), (5, .int ((-1))), (0, .ref (g.2.2 (101))), (1, .int (x1)), (2, .int (z.1)), (3, .int (z.2.1)), (4, .int (z.2.2.1))]) X.1 X.2.1 (dk T_X11_nearest 16 rfl) hl (Nat.le_of_ble_eq_true rfl) rfl (fun ls hl => ?_)
      obtain ⟨q14, hq14, h⟩ := bs h
      refine w_X11_nearest_l27 X x1 z.1 z.2.1 z.2.2.1 z.2.2.2 (fun v e H locs ls Y hl => ?_) FU ((-1), 0) Y (lv_sub hl [2, 3, 4, 5, 6, 1, 0] rfl) hq14
      · obtain rfl := e
        refine lv_aload_n X.1 X.2.1 (dk T_X11_nearest 66 rfl) rfl (lv_at hl 0 rfl) ?_
        refine gg X Y fl_X11_62 rfl rfl (dk T_X11_nearest 67 rfl) ?_
        refine lv_iload X.1 X.2.1 (dk T_X11_nearest 68 rfl) (lv_at hl 4 rfl) ?_
        refine lv_iload X.1 X.2.1 (dk T_X11_nearest 69 rfl) (lv_at hl 5 rfl) ?_
        obtain ⟨g15, h⟩ := gd h
        refine gis X Y rfl (inp g15) (dk T_X11_nearest 70 rfl) (fun H locs Y => ?_)
        refine lv_aload_n X.1 X.2.1 (dk T_X11_nearest 71 rfl) rfl (lv_at hl 0 rfl) ?_
        refine lv_dup X.1 X.2.1 (dk T_X11_nearest 72 rfl) rfl ?_
        refine gg X Y fl_X11_295 rfl rfl (dk T_X11_nearest 73 rfl) ?_
        refine lv_aload_n X.1 X.2.1 (dk T_X11_nearest 74 rfl) rfl (lv_at hl 0 rfl) ?_
        refine lv_iload_n X.1 X.2.1 (dk T_X11_nearest 75 rfl) rfl (lv_at hl 1 rfl) ?_
        refine lv_iload_n X.1 X.2.1 (dk T_X11_nearest 76 rfl) rfl (lv_at hl 3 rfl) ?_
        refine lv_aload_n X.1 X.2.1 (dk T_X11_nearest 77 rfl) rfl (lv_at hl 0 rfl) ?_
        refine gg X Y fl_X11_56 rfl rfl (dk T_X11_nearest 78 rfl) ?_
        refine lv_iload X.1 X.2.1 (dk T_X11_nearest 79 rfl) (lv_at hl 5 rfl) ?_
        obtain ⟨g16, h⟩ := gd h
        refine gil X Y rfl (inp g16) (dk T_X11_nearest 80 rfl) ?_
        obtain ⟨q17, hq17, h⟩ := bs h
        refine gvI (rest := [.int (up z.2.2.2 119 z.2.2.1.toNatClampNeg q14 101 36), .ref (g.2.2 (101))]) X Y (c_X11_far x1 z.2.1 ((up z.2.2.2 119 z.2.2.1.toNatClampNeg q14) 117 q14.toNatClampNeg) (up z.2.2.2 119 z.2.2.1.toNatClampNeg q14) hq17) cb_X11_298 rfl hl.1 rfl rfl (Nat.le_of_ble_eq_true rfl) ⟨Nat.le_of_ble_eq_true rfl, Nat.le_of_ble_eq_true rfl⟩ (dk T_X11_nearest 81 rfl) (fun H locs Y => ?_)
        refine lv_iadd X.1 X.2.1 (dk T_X11_nearest 82 rfl) ?_
        refine gp X Y fp_X11_295 rfl (nar_int _) (dk T_X11_nearest 83 rfl) (fun H locs Y => ?_)
        refine lv_aload_n X.1 X.2.1 (dk T_X11_nearest 84 rfl) rfl (lv_at hl 0 rfl) ?_
        refine gg X Y fl_X11_56 rfl rfl (dk T_X11_nearest 85 rfl) ?_
        refine lv_iload X.1 X.2.1 (dk T_X11_nearest 86 rfl) (lv_at hl 5 rfl) ?_
        obtain ⟨g18, h⟩ := gd h
        refine gil X Y rfl (inp g18) (dk T_X11_nearest 87 rfl) ?_
        refine lv_istore_n (lv' := [(3, .int ((up (up z.2.2.2 119 z.2.2.1.toNatClampNeg q14) 101 36 ((up z.2.2.2 119 z.2.2.1.toNatClampNeg q14 101 36) + q17)) 117 q14.toNatClampNeg)), (0, .ref (g.2.2 (101))), (1, .int (x1)), (2, .int (z.1)), (4, .int (z.2.2.1)), (5, .int (q14))]) X.1 X.2.1 (dk T_X11_nearest 88 rfl) rfl hl (Nat.le_of_ble_eq_true rfl) rfl (fun ls hl => ?_)
        refine lv_iload_n X.1 X.2.1 (dk T_X11_nearest 89 rfl) rfl (lv_at hl 3 rfl) ?_
        refine lv_iconst (v := 1) X.1 X.2.1 (dk T_X11_nearest 90 rfl) ic_1 ?_
        refine lv_iload X.1 X.2.1 (dk T_X11_nearest 91 rfl) (lv_at hl 5 rfl) ?_
        refine lv_ishl X.1 X.2.1 (dk T_X11_nearest 92 rfl) ?_
        refine lv_ior X.1 X.2.1 (dk T_X11_nearest 93 rfl) ?_
        refine lv_istore_n (lv' := [(2, .int (z.1 ||| ((1 : Int32) <<< (q14 &&& 31)))), (3, .int ((up (up z.2.2.2 119 z.2.2.1.toNatClampNeg q14) 101 36 ((up z.2.2.2 119 z.2.2.1.toNatClampNeg q14 101 36) + q17)) 117 q14.toNatClampNeg)), (0, .ref (g.2.2 (101))), (1, .int (x1)), (4, .int (z.2.2.1)), (5, .int (q14))]) X.1 X.2.1 (dk T_X11_nearest 94 rfl) rfl hl (Nat.le_of_ble_eq_true rfl) rfl (fun ls hl => ?_)
        refine lv_iinc (v := z.2.2.1 + 1) (lv' := [(4, .int (z.2.2.1 + 1)), (2, .int (z.1 ||| ((1 : Int32) <<< (q14 &&& 31)))), (3, .int ((up (up z.2.2.2 119 z.2.2.1.toNatClampNeg q14) 101 36 ((up z.2.2.2 119 z.2.2.1.toNatClampNeg q14 101 36) + q17)) 117 q14.toNatClampNeg)), (0, .ref (g.2.2 (101))), (1, .int (x1)), (5, .int (q14))]) X.1 X.2.1 (dk T_X11_nearest 95 rfl) hl (k := 4) rfl (icx ic_1) (Nat.le_of_ble_eq_true rfl) rfl (fun ls hl => ?_)
        refine lv_goto (tgt := 12) X.1 X.2.1 (dk T_X11_nearest 96 rfl) rfl ?_
        exact KB (z.1 ||| ((1 : Int32) <<< (q14 &&& 31))) ((up (up z.2.2.2 119 z.2.2.1.toNatClampNeg q14) 101 36 ((up z.2.2.2 119 z.2.2.1.toNatClampNeg q14 101 36) + q17)) 117 q14.toNatClampNeg) (z.2.2.1 + 1) (up (up z.2.2.2 119 z.2.2.1.toNatClampNeg q14) 101 36 ((up z.2.2.2 119 z.2.2.1.toNatClampNeg q14 101 36) + q17)) (Option.some.inj h).symm _ _ _ Y (lv_sub hl [3, 4, 1, 2, 0] rfl)
def f_X11_nearest_0 (x1 : Int32) (σ : St) : Option (St) :=
  (lp (f_X11_nearest_l12 x1) FU (0, 0, 0, up σ 101 36 0)).bind fun q19 => some q19
set_option maxHeartbeats 4000000 in
set_option maxRecDepth 100000 in
theorem w_X11_nearest_0 (X : Cx g RX11 cX11_nearest 8 none p s m args meth c) (x1 : Int32) (σ : St) {w : St} (KR : ∀ (H : Heap) (locs : List Loc) (ls : Array Slot) (pc : Nat), Wd g s w H locs → decode cX11_nearest pc = .ok (.return_, 1) → W p l e (rmm 1 26) s m args below meth c H locs 0 0 Q (F0 m pc ls [])) {H : Heap} {locs : List Loc} {ls : Array Slot} (Y : Wd g s σ H locs) (hl : lv_has ls 8 [(0, .ref (g.2.2 (101))), (1, .int (x1))]) (h : f_X11_nearest_0 x1 σ = some w) : W p l e (rmm 1 26) s m args below meth c H locs 0 0 Q (F0 m 0 ls []) := by
  unfold f_X11_nearest_0 at h
  refine lv_iconst (v := 0) X.1 X.2.1 (dk T_X11_nearest 0 rfl) ic_0 ?_
  refine lv_istore_n (lv' := [(2, .int (0)), (0, .ref (g.2.2 (101))), (1, .int (x1))]) X.1 X.2.1 (dk T_X11_nearest 1 rfl) rfl hl (Nat.le_of_ble_eq_true rfl) rfl (fun ls hl => ?_)
  refine lv_iconst (v := 0) X.1 X.2.1 (dk T_X11_nearest 2 rfl) ic_0 ?_
  refine lv_istore_n (lv' := [(3, .int (0)), (2, .int (0)), (0, .ref (g.2.2 (101))), (1, .int (x1))]) X.1 X.2.1 (dk T_X11_nearest 3 rfl) rfl hl (Nat.le_of_ble_eq_true rfl) rfl (fun ls hl => ?_)
  refine lv_aload_n X.1 X.2.1 (dk T_X11_nearest 4 rfl) rfl (lv_at hl 2 rfl) ?_
  refine lv_iconst (v := 0) X.1 X.2.1 (dk T_X11_nearest 5 rfl) ic_0 ?_
  refine gp X Y fp_X11_295 rfl (nar_int _) (dk T_X11_nearest 6 rfl) (fun H locs Y => ?_)
  refine lv_iconst (v := 0) X.1 X.2.1 (dk T_X11_nearest 7 rfl) ic_0 ?_
  refine lv_istore (lv' := [(4, .int (0)), (3, .int (0)), (2, .int (0)), (0, .ref (g.2.2 (101))), (1, .int (x1))]) X.1 X.2.1 (dk T_X11_nearest 8 rfl) hl (Nat.le_of_ble_eq_true rfl) rfl (fun ls hl => ?_)
  obtain ⟨q19, hq19, h⟩ := bs h
  refine w_X11_nearest_l12 X x1 σ (fun v e H locs ls Y hl => ?_) FU (0, 0, 0, up σ 101 36 0) Y (lv_sub hl [3, 4, 2, 1, 0] rfl) hq19
  · obtain rfl := e
    obtain rfl := Option.some.inj h
    exact KR _ _ _ _ Y (dk T_X11_nearest 97 rfl)
def f_X11_nearest (x1 : Int32) (σ : St) : Option (St) := f_X11_nearest_0 x1 σ
set_option maxHeartbeats 4000000 in
set_option maxRecDepth 100000 in
theorem c_X11_nearest {l : Launch} {g : Geo} (x1 : Int32) (σ : St) {w : St} (h : f_X11_nearest x1 σ = some w) : CtV l yX11_nearest cX11_nearest 8 none (rmm 1 26) g [.ref (g.2.2 (101)), .int (x1)] σ w := enV (by decide) rfl (Nat.le_of_ble_eq_true rfl) (fun p e s m args below meth c Q X Y ls hl KR => w_X11_nearest_0 X x1 σ KR Y hl h)
def I_X11_leftOf : List (Nat × Instr × Nat) := [(0, .ldc_w 301, 3), (3, .istore 4, 2), (5, .iconst 0, 1), (6, .istore 5, 2), (8, .iload 5, 2), (10, .aload_n 0, 1), (11, .getfield 292, 3), (14, .if_icmp .ge 96, 3), (17, .iload_n 2, 1), (18, .iload 5, 2), (20, .invokestatic 105, 3), (23, .ifCond .ne 81, 3), (26, .aload_n 0, 1), (27, .getfield 59, 3), (30, .iload 5, 2), (32, .iaload, 1), (33, .iload_n 2, 1), (34, .iconst (-1), 1), (35, .ixor, 1), (36, .iand, 1), (37, .ifCond .ne 67, 3), (40, .aload_n 0, 1), (41, .iload_n 1, 1), (42, .iload_n 3, 1), (43, .bipush 9, 2), (45, .if_icmp .ne 7, 3), (48, .iconst 0, 1), (49, .goto 9, 3), (52, .aload_n 0, 1), (53, .getfield 56, 3), (56, .iload_n 3, 1), (57, .iaload, 1), (58, .aload_n 0, 1), (59, .getfield 56, 3), (62, .iload 5, 2), (64, .iaload, 1), (65, .invokevirtual 298, 3), (68, .aload_n 0, 1), (69, .getfield 65, 3), (72, .bipush 10, 2), (74, .iload_n 2, 1), (75, .iconst 1, 1), (76, .iload 5, 2), (78, .ishl, 1), (79, .ior, 1), (80, .imul, 1), (81, .iload 5, 2), (83, .iadd, 1), (84, .iaload, 1), (85, .iadd, 1), (86, .istore 6, 2), (88, .iload 6, 2), (90, .iload 4, 2), (92, .if_icmp .ge 8, 3), (95, .iload 6, 2), (97, .goto 5, 3), (100, .iload 4, 2), (102, .istore 4, 2), (104, .iinc 5 1, 3), (107, .goto (-99), 3), (110, .iload 4, 2), (112, .ireturn, 1)]
set_option maxRecDepth 100000 in
theorem T_X11_leftOf : ∀ q ∈ I_X11_leftOf, decode cX11_leftOf q.1 = .ok (q.2.1, q.2.2) := by decide +kernel
def f_X11_leftOf_j104 (x1 : Int32) (x2 : Int32) (x3 : Int32) (x4 : Int32) (x5 : Int32) (σ : St) : Option ((Int32 × Int32) ⊕ (Int32)) :=
  some (.inl (x4, x5 + 1))
set_option maxHeartbeats 4000000 in
set_option maxRecDepth 100000 in
theorem w_X11_leftOf_j104 (X : Cx g RX11 cX11_leftOf 7 (some .int) p s m args meth c) (x1 : Int32) (x2 : Int32) (x3 : Int32) (x4 : Int32) (x5 : Int32) (σ : St) {w : (Int32 × Int32) ⊕ (Int32)} (KB : ∀ (v0_ : Int32) (v1_ : Int32), w = .inl (v0_, v1_) → ∀ (H : Heap) (locs : List Loc) (ls : Array Slot), Wd g s σ H locs → lv_has ls 7 [(0, .ref (g.2.2 (101))), (1, .int (x1)), (2, .int (x2)), (3, .int (x3)), (4, .int (v0_)), (5, .int (v1_))] → W p l e (rmm 1 26) s m args below meth c H locs 0 0 Q (F0 m 8 ls [])) (KX0 : ∀ (v : Int32), w = .inr v → ∀ (H : Heap) (locs : List Loc) (ls : Array Slot), Wd g s σ H locs → lv_has ls 7 [(4, .int (v))] → W p l e (rmm 1 26) s m args below meth c H locs 0 0 Q (F0 m 110 ls [])) {H : Heap} {locs : List Loc} {ls : Array Slot} (Y : Wd g s σ H locs) (hl : lv_has ls 7 [(0, .ref (g.2.2 (101))), (1, .int (x1)), (2, .int (x2)), (3, .int (x3)), (4, .int (x4)), (5, .int (x5))]) (h : f_X11_leftOf_j104 x1 x2 x3 x4 x5 σ = some w) : W p l e (rmm 1 26) s m args below meth c H locs 0 0 Q (F0 m 104 ls []) := by
  unfold f_X11_leftOf_j104 at h
  refine lv_iinc (v := x5 + 1) (lv' := [(5, .int (x5 + 1)), (0, .ref (g.2.2 (101))), (1, .int (x1)), (2, .int (x2)), (3, .int (x3)), (4, .int (x4))]) X.1 X.2.1 (dk T_X11_leftOf 58 rfl) hl (k := 5) rfl (icx ic_1) (Nat.le_of_ble_eq_true rfl) rfl (fun ls hl => ?_)
  refine lv_goto (tgt := 8) X.1 X.2.1 (dk T_X11_leftOf 59 rfl) rfl ?_
  exact KB x4 (x5 + 1) (Option.some.inj h).symm _ _ _ Y (lv_sub hl [1, 2, 3, 4, 5, 0] rfl)
def f_X11_leftOf_j102 (x1 : Int32) (x2 : Int32) (x3 : Int32) (x5 : Int32) (s0 : Int32) (σ : St) : Option ((Int32 × Int32) ⊕ (Int32)) :=
  f_X11_leftOf_j104 x1 x2 x3 s0 x5 σ
set_option maxHeartbeats 4000000 in
set_option maxRecDepth 100000 in
theorem w_X11_leftOf_j102 (X : Cx g RX11 cX11_leftOf 7 (some .int) p s m args meth c) (x1 : Int32) (x2 : Int32) (x3 : Int32) (x5 : Int32) (s0 : Int32) (σ : St) {w : (Int32 × Int32) ⊕ (Int32)} (KB : ∀ (v0_ : Int32) (v1_ : Int32), w = .inl (v0_, v1_) → ∀ (H : Heap) (locs : List Loc) (ls : Array Slot), Wd g s σ H locs → lv_has ls 7 [(0, .ref (g.2.2 (101))), (1, .int (x1)), (2, .int (x2)), (3, .int (x3)), (4, .int (v0_)), (5, .int (v1_))] → W p l e (rmm 1 26) s m args below meth c H locs 0 0 Q (F0 m 8 ls [])) (KX0 : ∀ (v : Int32), w = .inr v → ∀ (H : Heap) (locs : List Loc) (ls : Array Slot), Wd g s σ H locs → lv_has ls 7 [(4, .int (v))] → W p l e (rmm 1 26) s m args below meth c H locs 0 0 Q (F0 m 110 ls [])) {H : Heap} {locs : List Loc} {ls : Array Slot} (Y : Wd g s σ H locs) (hl : lv_has ls 7 [(0, .ref (g.2.2 (101))), (1, .int (x1)), (2, .int (x2)), (3, .int (x3)), (5, .int (x5))]) (h : f_X11_leftOf_j102 x1 x2 x3 x5 s0 σ = some w) : W p l e (rmm 1 26) s m args below meth c H locs 0 0 Q (F0 m 102 ls [.int (s0)]) := by
  unfold f_X11_leftOf_j102 at h
  refine lv_istore (lv' := [(4, .int (s0)), (0, .ref (g.2.2 (101))), (1, .int (x1)), (2, .int (x2)), (3, .int (x3)), (5, .int (x5))]) X.1 X.2.1 (dk T_X11_leftOf 57 rfl) hl (Nat.le_of_ble_eq_true rfl) rfl (fun ls hl => ?_)
  exact w_X11_leftOf_j104 X x1 x2 x3 s0 x5 σ KB KX0 Y (lv_sub hl [1, 2, 3, 4, 0, 5] rfl) h
def f_X11_leftOf_j58 (x1 : Int32) (x2 : Int32) (x3 : Int32) (x4 : Int32) (x5 : Int32) (s0 : Int32) (s1 : Int32) (σ : St) : Option ((Int32 × Int32) ⊕ (Int32)) :=
  chk (inb x5 20) ((f_X11_far s1 s0 (σ 117 x5.toNatClampNeg) σ).bind fun q9 => chk (inb ((10 * (x2 ||| ((1 : Int32) <<< (x5 &&& 31)))) + x5) 5120) (if x4 ≤ (q9 + (σ 120 ((10 * (x2 ||| ((1 : Int32) <<< (x5 &&& 31)))) + x5).toNatClampNeg)) then f_X11_leftOf_j102 x1 x2 x3 x5 x4 σ else f_X11_leftOf_j102 x1 x2 x3 x5 (q9 + (σ 120 ((10 * (x2 ||| ((1 : Int32) <<< (x5 &&& 31)))) + x5).toNatClampNeg)) σ))
set_option maxHeartbeats 4000000 in
set_option maxRecDepth 100000 in
theorem w_X11_leftOf_j58 (X : Cx g RX11 cX11_leftOf 7 (some .int) p s m args meth c) (x1 : Int32) (x2 : Int32) (x3 : Int32) (x4 : Int32) (x5 : Int32) (s0 : Int32) (s1 : Int32) (σ : St) {w : (Int32 × Int32) ⊕ (Int32)} (KB : ∀ (v0_ : Int32) (v1_ : Int32), w = .inl (v0_, v1_) → ∀ (H : Heap) (locs : List Loc) (ls : Array Slot), Wd g s σ H locs → lv_has ls 7 [(0, .ref (g.2.2 (101))), (1, .int (x1)), (2, .int (x2)), (3, .int (x3)), (4, .int (v0_)), (5, .int (v1_))] → W p l e (rmm 1 26) s m args below meth c H locs 0 0 Q (F0 m 8 ls [])) (KX0 : ∀ (v : Int32), w = .inr v → ∀ (H : Heap) (locs : List Loc) (ls : Array Slot), Wd g s σ H locs → lv_has ls 7 [(4, .int (v))] → W p l e (rmm 1 26) s m args below meth c H locs 0 0 Q (F0 m 110 ls [])) {H : Heap} {locs : List Loc} {ls : Array Slot} (Y : Wd g s σ H locs) (hl : lv_has ls 7 [(0, .ref (g.2.2 (101))), (1, .int (x1)), (2, .int (x2)), (3, .int (x3)), (4, .int (x4)), (5, .int (x5))]) (h : f_X11_leftOf_j58 x1 x2 x3 x4 x5 s0 s1 σ = some w) : W p l e (rmm 1 26) s m args below meth c H locs 0 0 Q (F0 m 58 ls [.int (s0), .int (s1), .ref (g.2.2 (101))]) := by
  unfold f_X11_leftOf_j58 at h
  refine lv_aload_n X.1 X.2.1 (dk T_X11_leftOf 32 rfl) rfl (lv_at hl 0 rfl) ?_
  refine gg X Y fl_X11_56 rfl rfl (dk T_X11_leftOf 33 rfl) ?_
  refine lv_iload X.1 X.2.1 (dk T_X11_leftOf 34 rfl) (lv_at hl 5 rfl) ?_
  obtain ⟨g8, h⟩ := gd h
  refine gil X Y rfl (inp g8) (dk T_X11_leftOf 35 rfl) ?_
  obtain ⟨q9, hq9, h⟩ := bs h
  refine gvI (rest := []) X Y (c_X11_far s1 s0 (σ 117 x5.toNatClampNeg) σ hq9) cb_X11_298 rfl hl.1 rfl rfl (Nat.le_of_ble_eq_true rfl) ⟨Nat.le_of_ble_eq_true rfl, Nat.le_of_ble_eq_true rfl⟩ (dk T_X11_leftOf 36 rfl) (fun H locs Y => ?_)
  refine lv_aload_n X.1 X.2.1 (dk T_X11_leftOf 37 rfl) rfl (lv_at hl 0 rfl) ?_
  refine gg X Y fl_X11_65 rfl rfl (dk T_X11_leftOf 38 rfl) ?_
  refine lv_bipush (v := 10) X.1 X.2.1 (dk T_X11_leftOf 39 rfl) bp_10 ?_
  refine lv_iload_n X.1 X.2.1 (dk T_X11_leftOf 40 rfl) rfl (lv_at hl 2 rfl) ?_
  refine lv_iconst (v := 1) X.1 X.2.1 (dk T_X11_leftOf 41 rfl) ic_1 ?_
  refine lv_iload X.1 X.2.1 (dk T_X11_leftOf 42 rfl) (lv_at hl 5 rfl) ?_
  refine lv_ishl X.1 X.2.1 (dk T_X11_leftOf 43 rfl) ?_
  refine lv_ior X.1 X.2.1 (dk T_X11_leftOf 44 rfl) ?_
  refine lv_imul X.1 X.2.1 (dk T_X11_leftOf 45 rfl) ?_
  refine lv_iload X.1 X.2.1 (dk T_X11_leftOf 46 rfl) (lv_at hl 5 rfl) ?_
  refine lv_iadd X.1 X.2.1 (dk T_X11_leftOf 47 rfl) ?_
  obtain ⟨g10, h⟩ := gd h
  refine gil X Y rfl (inp g10) (dk T_X11_leftOf 48 rfl) ?_
  refine lv_iadd X.1 X.2.1 (dk T_X11_leftOf 49 rfl) ?_
  refine lv_istore (lv' := [(6, .int (q9 + (σ 120 ((10 * (x2 ||| ((1 : Int32) <<< (x5 &&& 31)))) + x5).toNatClampNeg))), (0, .ref (g.2.2 (101))), (1, .int (x1)), (2, .int (x2)), (3, .int (x3)), (4, .int (x4)), (5, .int (x5))]) X.1 X.2.1 (dk T_X11_leftOf 50 rfl) hl (Nat.le_of_ble_eq_true rfl) rfl (fun ls hl => ?_)
  refine lv_iload X.1 X.2.1 (dk T_X11_leftOf 51 rfl) (lv_at hl 0 rfl) ?_
  refine lv_iload X.1 X.2.1 (dk T_X11_leftOf 52 rfl) (lv_at hl 5 rfl) ?_
  refine lv_icmp_ge (tgt := 100) X.1 X.2.1 (dk T_X11_leftOf 53 rfl) rfl (fun c11 => ?_) (fun c11 => ?_)
  · replace h := ipos c11 h
    refine lv_iload X.1 X.2.1 (dk T_X11_leftOf 56 rfl) (lv_at hl 5 rfl) ?_
    exact w_X11_leftOf_j102 X x1 x2 x3 x5 x4 σ KB KX0 Y (lv_sub hl [1, 2, 3, 4, 6] rfl) h
  · replace h := ineg c11 h
    refine lv_iload X.1 X.2.1 (dk T_X11_leftOf 54 rfl) (lv_at hl 0 rfl) ?_
    refine lv_goto (tgt := 102) X.1 X.2.1 (dk T_X11_leftOf 55 rfl) rfl ?_
    exact w_X11_leftOf_j102 X x1 x2 x3 x5 (q9 + (σ 120 ((10 * (x2 ||| ((1 : Int32) <<< (x5 &&& 31)))) + x5).toNatClampNeg)) σ KB KX0 Y (lv_sub hl [1, 2, 3, 4, 6] rfl) h
def f_X11_leftOf_l8 (x1 : Int32) (x2 : Int32) (x3 : Int32) (σ : St) (z : Int32 × Int32) : Option ((Int32 × Int32) ⊕ (Int32)) :=
  if (σ 101 35) ≤ z.2 then some (.inr z.1) else (f_X11_has x2 z.2).bind fun q2 => if q2 = 0 then chk (inb z.2 20) (if ((σ 118 z.2.toNatClampNeg) &&& (x2 ^^^ (-1))) = 0 then if x3 = 9 then f_X11_leftOf_j58 x1 x2 x3 z.1 z.2 0 x1 σ else chk (inb x3 20) (f_X11_leftOf_j58 x1 x2 x3 z.1 z.2 (σ 117 x3.toNatClampNeg) x1 σ) else f_X11_leftOf_j104 x1 x2 x3 z.1 z.2 σ) else f_X11_leftOf_j104 x1 x2 x3 z.1 z.2 σ
set_option maxHeartbeats 4000000 in
set_option maxRecDepth 100000 in
theorem w_X11_leftOf_l8 (X : Cx g RX11 cX11_leftOf 7 (some .int) p s m args meth c) (x1 : Int32) (x2 : Int32) (x3 : Int32) (σ : St) {r : Int32} (KX0 : ∀ (v : Int32), r = v → ∀ (H : Heap) (locs : List Loc) (ls : Array Slot), Wd g s σ H locs → lv_has ls 7 [(4, .int (v))] → W p l e (rmm 1 26) s m args below meth c H locs 0 0 Q (F0 m 110 ls [])) : ∀ (n : Nat) (z : Int32 × Int32) {H : Heap} {locs : List Loc} {ls : Array Slot}, Wd g s σ H locs → lv_has ls 7 [(0, .ref (g.2.2 (101))), (1, .int (x1)), (2, .int (x2)), (3, .int (x3)), (4, .int (z.1)), (5, .int (z.2))] → lp (f_X11_leftOf_l8 x1 x2 x3 σ) n z = some r → W p l e (rmm 1 26) s m args below meth c H locs 0 0 Q (F0 m 8 ls []) := by
  intro n
  induction n with
  | zero => intro z H locs ls Y hl h; cases h
  | succ n ih =>
    intro z H locs ls Y hl h
    obtain ⟨w, h, hw⟩ := lps h
    have KB : ∀ (v0_ : Int32) (v1_ : Int32), w = .inl (v0_, v1_) → ∀ (H : Heap) (locs : List Loc) (ls : Array Slot), Wd g s σ H locs → lv_has ls 7 [(0, .ref (g.2.2 (101))), (1, .int (x1)), (2, .int (x2)), (3, .int (x3)), (4, .int (v0_)), (5, .int (v1_))] → W p l e (rmm 1 26) s m args below meth c H locs 0 0 Q (F0 m 8 ls []) := fun v0_ v1_ e H locs ls Y hl => ih (v0_, v1_) Y hl (lpl hw e)
    have KX0 := fun (v : Int32) (e : w = .inr v) => KX0 v (lpr hw e)
    unfold f_X11_leftOf_l8 at h
    refine lv_iload X.1 X.2.1 (dk T_X11_leftOf 4 rfl) (lv_at hl 5 rfl) ?_
    refine lv_aload_n X.1 X.2.1 (dk T_X11_leftOf 5 rfl) rfl (lv_at hl 0 rfl) ?_
    refine gg X Y fl_X11_292 rfl rfl (dk T_X11_leftOf 6 rfl) ?_
    refine lv_icmp_ge (tgt := 110) X.1 X.2.1 (dk T_X11_leftOf 7 rfl) rfl (fun c1 => ?_) (fun c1 => ?_)
    · replace h := ipos c1 h
      exact KX0 z.1 (Option.some.inj h).symm _ _ _ Y (lv_sub hl [4] rfl)
    · replace h := ineg c1 h
      refine lv_iload_n X.1 X.2.1 (dk T_X11_leftOf 8 rfl) rfl (lv_at hl 2 rfl) ?_
      refine lv_iload X.1 X.2.1 (dk T_X11_leftOf 9 rfl) (lv_at hl 5 rfl) ?_
      obtain ⟨q2, hq2, h⟩ := bs h
      refine gsI (rest := []) X Y (c_X11_has x2 z.2 σ hq2) cb_X11_105 hl.1 rfl rfl (Nat.le_of_ble_eq_true rfl) ⟨Nat.le_of_ble_eq_true rfl, Nat.le_of_ble_eq_true rfl⟩ (dk T_X11_leftOf 10 rfl) (fun H locs Y => ?_)
      refine lv_if_ne (tgt := 104) X.1 X.2.1 (dk T_X11_leftOf 11 rfl) rfl (fun c3 => ?_) (fun c3 => ?_)
      · replace h := ineg c3 h
        exact w_X11_leftOf_j104 X x1 x2 x3 z.1 z.2 σ KB KX0 Y (lv_sub hl [0, 1, 2, 3, 4, 5] rfl) h
      · replace h := ipos c3 h
        refine lv_aload_n X.1 X.2.1 (dk T_X11_leftOf 12 rfl) rfl (lv_at hl 0 rfl) ?_
        refine gg X Y fl_X11_59 rfl rfl (dk T_X11_leftOf 13 rfl) ?_
        refine lv_iload X.1 X.2.1 (dk T_X11_leftOf 14 rfl) (lv_at hl 5 rfl) ?_
        obtain ⟨g4, h⟩ := gd h
        refine gil X Y rfl (inp g4) (dk T_X11_leftOf 15 rfl) ?_
        refine lv_iload_n X.1 X.2.1 (dk T_X11_leftOf 16 rfl) rfl (lv_at hl 2 rfl) ?_
        refine lv_iconst (v := (-1)) X.1 X.2.1 (dk T_X11_leftOf 17 rfl) ic_m1 ?_
        refine lv_ixor X.1 X.2.1 (dk T_X11_leftOf 18 rfl) ?_
        refine lv_iand X.1 X.2.1 (dk T_X11_leftOf 19 rfl) ?_
        refine lv_if_ne (tgt := 104) X.1 X.2.1 (dk T_X11_leftOf 20 rfl) rfl (fun c5 => ?_) (fun c5 => ?_)
        · replace h := ineg c5 h
          exact w_X11_leftOf_j104 X x1 x2 x3 z.1 z.2 σ KB KX0 Y (lv_sub hl [0, 1, 2, 3, 4, 5] rfl) h
        · replace h := ipos c5 h
          refine lv_aload_n X.1 X.2.1 (dk T_X11_leftOf 21 rfl) rfl (lv_at hl 0 rfl) ?_
          refine lv_iload_n X.1 X.2.1 (dk T_X11_leftOf 22 rfl) rfl (lv_at hl 1 rfl) ?_
          refine lv_iload_n X.1 X.2.1 (dk T_X11_leftOf 23 rfl) rfl (lv_at hl 3 rfl) ?_
          refine lv_bipush (v := 9) X.1 X.2.1 (dk T_X11_leftOf 24 rfl) bp_9 ?_
          refine lv_icmp_ne (tgt := 52) X.1 X.2.1 (dk T_X11_leftOf 25 rfl) rfl (fun c6 => ?_) (fun c6 => ?_)
          · replace h := ineg c6 h
            refine lv_aload_n X.1 X.2.1 (dk T_X11_leftOf 28 rfl) rfl (lv_at hl 0 rfl) ?_
            refine gg X Y fl_X11_56 rfl rfl (dk T_X11_leftOf 29 rfl) ?_
            refine lv_iload_n X.1 X.2.1 (dk T_X11_leftOf 30 rfl) rfl (lv_at hl 3 rfl) ?_
            obtain ⟨g7, h⟩ := gd h
            refine gil X Y rfl (inp g7) (dk T_X11_leftOf 31 rfl) ?_
            exact w_X11_leftOf_j58 X x1 x2 x3 z.1 z.2 (σ 117 x3.toNatClampNeg) x1 σ KB KX0 Y (lv_sub hl [0, 1, 2, 3, 4, 5] rfl) h
          · replace h := ipos c6 h
            refine lv_iconst (v := 0) X.1 X.2.1 (dk T_X11_leftOf 26 rfl) ic_0 ?_
            refine lv_goto (tgt := 58) X.1 X.2.1 (dk T_X11_leftOf 27 rfl) rfl ?_
            exact w_X11_leftOf_j58 X x1 x2 x3 z.1 z.2 0 x1 σ KB KX0 Y (lv_sub hl [0, 1, 2, 3, 4, 5] rfl) h
def f_X11_leftOf_0 (x1 : Int32) (x2 : Int32) (x3 : Int32) (σ : St) : Option (Int32) :=
  (lp (f_X11_leftOf_l8 x1 x2 x3 σ) FU (1000000, 0)).bind fun q12 => some q12
set_option maxHeartbeats 4000000 in
set_option maxRecDepth 100000 in
theorem w_X11_leftOf_0 (X : Cx g RX11 cX11_leftOf 7 (some .int) p s m args meth c) (x1 : Int32) (x2 : Int32) (x3 : Int32) (σ : St) {w : Int32} (KR : ∀ (H : Heap) (locs : List Loc) (ls : Array Slot) (pc : Nat), Wd g s σ H locs → decode cX11_leftOf pc = .ok (.ireturn, 1) → W p l e (rmm 1 26) s m args below meth c H locs 0 0 Q (F0 m pc ls [.int (w)])) {H : Heap} {locs : List Loc} {ls : Array Slot} (Y : Wd g s σ H locs) (hl : lv_has ls 7 [(0, .ref (g.2.2 (101))), (1, .int (x1)), (2, .int (x2)), (3, .int (x3))]) (h : f_X11_leftOf_0 x1 x2 x3 σ = some w) : W p l e (rmm 1 26) s m args below meth c H locs 0 0 Q (F0 m 0 ls []) := by
  unfold f_X11_leftOf_0 at h
  refine lv_ldcw (v := 1000000) X.1 X.2.1 X.2.2.2.2.1 (X.2.2.2.2.2.1 _ (mw 33 3 rfl rfl)) (dk T_X11_leftOf 0 rfl) ?_
  refine lv_istore (lv' := [(4, .int (1000000)), (0, .ref (g.2.2 (101))), (1, .int (x1)), (2, .int (x2)), (3, .int (x3))]) X.1 X.2.1 (dk T_X11_leftOf 1 rfl) hl (Nat.le_of_ble_eq_true rfl) rfl (fun ls hl => ?_)
  refine lv_iconst (v := 0) X.1 X.2.1 (dk T_X11_leftOf 2 rfl) ic_0 ?_
  refine lv_istore (lv' := [(5, .int (0)), (4, .int (1000000)), (0, .ref (g.2.2 (101))), (1, .int (x1)), (2, .int (x2)), (3, .int (x3))]) X.1 X.2.1 (dk T_X11_leftOf 3 rfl) hl (Nat.le_of_ble_eq_true rfl) rfl (fun ls hl => ?_)
  obtain ⟨q12, hq12, h⟩ := bs h
  refine w_X11_leftOf_l8 X x1 x2 x3 σ (fun v e H locs ls Y hl => ?_) FU (1000000, 0) Y (lv_sub hl [2, 3, 4, 5, 1, 0] rfl) hq12
  · obtain rfl := e
    refine lv_iload X.1 X.2.1 (dk T_X11_leftOf 60 rfl) (lv_at hl 0 rfl) ?_
    obtain rfl := Option.some.inj h
    exact KR _ _ _ _ Y (dk T_X11_leftOf 61 rfl)
def f_X11_leftOf (x1 : Int32) (x2 : Int32) (x3 : Int32) (σ : St) : Option (Int32) := f_X11_leftOf_0 x1 x2 x3 σ
set_option maxHeartbeats 4000000 in
set_option maxRecDepth 100000 in
theorem c_X11_leftOf {l : Launch} {g : Geo} (x1 : Int32) (x2 : Int32) (x3 : Int32) (σ : St) {w : Int32} (h : f_X11_leftOf x1 x2 x3 σ = some w) : CtI l yX11_leftOf cX11_leftOf 7 (some .int) (rmm 1 26) g [.ref (g.2.2 (101)), .int (x1), .int (x2), .int (x3)] σ w σ := enI .int (by decide) rfl rfl (Nat.le_of_ble_eq_true rfl) (fun p e s m args below meth c Q X Y ls hl KR => w_X11_leftOf_0 X x1 x2 x3 σ KR Y hl h)
def I_X11_shortest : List (Nat × Instr × Nat) := [(0, .iconst 1, 1), (1, .aload_n 0, 1), (2, .getfield 292, 3), (5, .ishl, 1), (6, .iconst 1, 1), (7, .isub, 1), (8, .istore_n 2, 1), (9, .iload_n 2, 1), (10, .istore_n 3, 1), (11, .iload_n 3, 1), (12, .ifCond .lt 54, 3), (15, .iconst 0, 1), (16, .istore 4, 2), (18, .iload 4, 2), (20, .bipush 10, 2), (22, .if_icmp .ge 38, 3), (25, .aload_n 0, 1), (26, .getfield 65, 3), (29, .bipush 10, 2), (31, .iload_n 3, 1), (32, .imul, 1), (33, .iload 4, 2), (35, .iadd, 1), (36, .iload_n 3, 1), (37, .iload_n 2, 1), (38, .if_icmp .ne 7, 3), (41, .iconst 0, 1), (42, .goto 11, 3), (45, .aload_n 0, 1), (46, .iload_n 1, 1), (47, .iload_n 3, 1), (48, .iload 4, 2), (50, .invokevirtual 302, 3), (53, .iastore, 1), (54, .iinc 4 1, 3), (57, .goto (-39), 3), (60, .iinc 3 (-1), 3), (63, .goto (-52), 3), (66, .iconst 0, 1), (67, .istore_n 3, 1), (68, .bipush 9, 2), (70, .istore 4, 2), (72, .aload_n 0, 1), (73, .aload_n 0, 1), (74, .getfield 65, 3), (77, .bipush 9, 2), (79, .iaload, 1), (80, .putfield 295, 3), (83, .iconst 0, 1), (84, .istore 5, 2), (86, .iload 5, 2), (88, .aload_n 0, 1), (89, .getfield 292, 3), (92, .if_icmp .ge 124, 3), (95, .iconst 0, 1), (96, .istore 6, 2), (98, .iload_n 3, 1), (99, .iload 6, 2), (101, .invokestatic 105, 3), (104, .ifCond .ne 80, 3), (107, .aload_n 0, 1), (108, .getfield 59, 3), (111, .iload 6, 2), (113, .iaload, 1), (114, .iload_n 3, 1), (115, .iconst (-1), 1), (116, .ixor, 1), (117, .iand, 1), (118, .ifCond .ne 66, 3), (121, .aload_n 0, 1), (122, .iload_n 1, 1), (123, .iload 4, 2), (125, .bipush 9, 2), (127, .if_icmp .ne 7, 3), (130, .iconst 0, 1), (131, .goto 10, 3), (134, .aload_n 0, 1), (135, .getfield 56, 3), (138, .iload 4, 2), (140, .iaload, 1), (141, .aload_n 0, 1), (142, .getfield 56, 3), (145, .iload 6, 2), (147, .iaload, 1), (148, .invokevirtual 298, 3), (151, .aload_n 0, 1), (152, .getfield 65, 3), (155, .bipush 10, 2), (157, .iload_n 3, 1), (158, .iconst 1, 1), (159, .iload 6, 2), (161, .ishl, 1), (162, .ior, 1), (163, .imul, 1), (164, .iload 6, 2), (166, .iadd, 1), (167, .iaload, 1), (168, .iadd, 1), (169, .aload_n 0, 1), (170, .getfield 65, 3), (173, .bipush 10, 2), (175, .iload_n 3, 1), (176, .imul, 1), (177, .iload 4, 2), (179, .iadd, 1), (180, .iaload, 1), (181, .if_icmp .eq 9, 3), (184, .iinc 6 1, 3), (187, .goto (-89), 3), (190, .aload_n 0, 1), (191, .getfield 62, 3), (194, .iload 5, 2), (196, .iload 6, 2), (198, .iastore, 1), (199, .iload_n 3, 1), (200, .iconst 1, 1), (201, .iload 6, 2), (203, .ishl, 1), (204, .ior, 1), (205, .istore_n 3, 1), (206, .iload 6, 2), (208, .istore 4, 2), (210, .iinc 5 1, 3), (213, .goto (-127), 3), (216, .return_, 1)]
set_option maxRecDepth 100000 in
theorem T_X11_shortest : ∀ q ∈ I_X11_shortest, decode cX11_shortest q.1 = .ok (q.2.1, q.2.2) := by decide +kernel
def f_X11_shortest_j53 (x1 : Int32) (x2 : Int32) (x3 : Int32) (x4 : Int32) (s0 : Int32) (s1 : Int32) (σ : St) : Option ((Int32 × St) ⊕ (St)) :=
  chk (inb s1 5120) (some (.inl (x4 + 1, up σ 120 s1.toNatClampNeg s0)))
set_option maxHeartbeats 4000000 in
set_option maxRecDepth 100000 in
theorem w_X11_shortest_j53 (X : Cx g RX11 cX11_shortest 7 none p s m args meth c) (x1 : Int32) (x2 : Int32) (x3 : Int32) (x4 : Int32) (s0 : Int32) (s1 : Int32) (σ : St) {w : (Int32 × St) ⊕ (St)} (KB : ∀ (v0_ : Int32) (v1_ : St), w = .inl (v0_, v1_) → ∀ (H : Heap) (locs : List Loc) (ls : Array Slot), Wd g s v1_ H locs → lv_has ls 7 [(0, .ref (g.2.2 (101))), (1, .int (x1)), (2, .int (x2)), (3, .int (x3)), (4, .int (v0_))] → W p l e (rmm 2 52) s m args below meth c H locs 0 0 Q (F0 m 18 ls [])) (KX0 : ∀ (v : St), w = .inr v → ∀ (H : Heap) (locs : List Loc) (ls : Array Slot), Wd g s v H locs → lv_has ls 7 [(0, .ref (g.2.2 (101))), (1, .int (x1)), (2, .int (x2)), (3, .int (x3))] → W p l e (rmm 2 52) s m args below meth c H locs 0 0 Q (F0 m 60 ls [])) {H : Heap} {locs : List Loc} {ls : Array Slot} (Y : Wd g s σ H locs) (hl : lv_has ls 7 [(0, .ref (g.2.2 (101))), (1, .int (x1)), (2, .int (x2)), (3, .int (x3)), (4, .int (x4))]) (h : f_X11_shortest_j53 x1 x2 x3 x4 s0 s1 σ = some w) : W p l e (rmm 2 52) s m args below meth c H locs 0 0 Q (F0 m 53 ls [.int (s0), .int (s1), .ref (g.2.2 (120))]) := by
  unfold f_X11_shortest_j53 at h
  obtain ⟨g5, h⟩ := gd h
  refine gis X Y rfl (inp g5) (dk T_X11_shortest 33 rfl) (fun H locs Y => ?_)
  refine lv_iinc (v := x4 + 1) (lv' := [(4, .int (x4 + 1)), (0, .ref (g.2.2 (101))), (1, .int (x1)), (2, .int (x2)), (3, .int (x3))]) X.1 X.2.1 (dk T_X11_shortest 34 rfl) hl (k := 4) rfl (icx ic_1) (Nat.le_of_ble_eq_true rfl) rfl (fun ls hl => ?_)
  refine lv_goto (tgt := 18) X.1 X.2.1 (dk T_X11_shortest 35 rfl) rfl ?_
  exact KB (x4 + 1) (up σ 120 s1.toNatClampNeg s0) (Option.some.inj h).symm _ _ _ Y (lv_sub hl [1, 2, 3, 4, 0] rfl)
def f_X11_shortest_l18 (x1 : Int32) (x2 : Int32) (x3 : Int32) (z : Int32 × St) : Option ((Int32 × St) ⊕ (St)) :=
  if 10 ≤ z.1 then some (.inr z.2) else if x3 = x2 then f_X11_shortest_j53 x1 x2 x3 z.1 0 ((10 * x3) + z.1) z.2 else (f_X11_leftOf x1 x3 z.1 z.2).bind fun q4 => f_X11_shortest_j53 x1 x2 x3 z.1 q4 ((10 * x3) + z.1) z.2
set_option maxHeartbeats 4000000 in
set_option maxRecDepth 100000 in
theorem w_X11_shortest_l18 (X : Cx g RX11 cX11_shortest 7 none p s m args meth c) (x1 : Int32) (x2 : Int32) (x3 : Int32) (σ : St) {r : St} (KX0 : ∀ (v : St), r = v → ∀ (H : Heap) (locs : List Loc) (ls : Array Slot), Wd g s v H locs → lv_has ls 7 [(0, .ref (g.2.2 (101))), (1, .int (x1)), (2, .int (x2)), (3, .int (x3))] → W p l e (rmm 2 52) s m args below meth c H locs 0 0 Q (F0 m 60 ls [])) : ∀ (n : Nat) (z : Int32 × St) {H : Heap} {locs : List Loc} {ls : Array Slot}, Wd g s z.2 H locs → lv_has ls 7 [(0, .ref (g.2.2 (101))), (1, .int (x1)), (2, .int (x2)), (3, .int (x3)), (4, .int (z.1))] → lp (f_X11_shortest_l18 x1 x2 x3) n z = some r → W p l e (rmm 2 52) s m args below meth c H locs 0 0 Q (F0 m 18 ls []) := by
  intro n
  induction n with
  | zero => intro z H locs ls Y hl h; cases h
  | succ n ih =>
    intro z H locs ls Y hl h
    obtain ⟨w, h, hw⟩ := lps h
    have KB : ∀ (v0_ : Int32) (v1_ : St), w = .inl (v0_, v1_) → ∀ (H : Heap) (locs : List Loc) (ls : Array Slot), Wd g s v1_ H locs → lv_has ls 7 [(0, .ref (g.2.2 (101))), (1, .int (x1)), (2, .int (x2)), (3, .int (x3)), (4, .int (v0_))] → W p l e (rmm 2 52) s m args below meth c H locs 0 0 Q (F0 m 18 ls []) := fun v0_ v1_ e H locs ls Y hl => ih (v0_, v1_) Y hl (lpl hw e)
    have KX0 := fun (v : St) (e : w = .inr v) => KX0 v (lpr hw e)
    unfold f_X11_shortest_l18 at h
    refine lv_iload X.1 X.2.1 (dk T_X11_shortest 13 rfl) (lv_at hl 4 rfl) ?_
    refine lv_bipush (v := 10) X.1 X.2.1 (dk T_X11_shortest 14 rfl) bp_10 ?_
    refine lv_icmp_ge (tgt := 60) X.1 X.2.1 (dk T_X11_shortest 15 rfl) rfl (fun c2 => ?_) (fun c2 => ?_)
    · replace h := ipos c2 h
      exact KX0 z.2 (Option.some.inj h).symm _ _ _ Y (lv_sub hl [0, 1, 2, 3] rfl)
    · replace h := ineg c2 h
      refine lv_aload_n X.1 X.2.1 (dk T_X11_shortest 16 rfl) rfl (lv_at hl 0 rfl) ?_
      refine gg X Y fl_X11_65 rfl rfl (dk T_X11_shortest 17 rfl) ?_
      refine lv_bipush (v := 10) X.1 X.2.1 (dk T_X11_shortest 18 rfl) bp_10 ?_
      refine lv_iload_n X.1 X.2.1 (dk T_X11_shortest 19 rfl) rfl (lv_at hl 3 rfl) ?_
      refine lv_imul X.1 X.2.1 (dk T_X11_shortest 20 rfl) ?_
      refine lv_iload X.1 X.2.1 (dk T_X11_shortest 21 rfl) (lv_at hl 4 rfl) ?_
      refine lv_iadd X.1 X.2.1 (dk T_X11_shortest 22 rfl) ?_
      refine lv_iload_n X.1 X.2.1 (dk T_X11_shortest 23 rfl) rfl (lv_at hl 3 rfl) ?_
      refine lv_iload_n X.1 X.2.1 (dk T_X11_shortest 24 rfl) rfl (lv_at hl 2 rfl) ?_
      refine lv_icmp_ne (tgt := 45) X.1 X.2.1 (dk T_X11_shortest 25 rfl) rfl (fun c3 => ?_) (fun c3 => ?_)
      · replace h := ineg c3 h
        refine lv_aload_n X.1 X.2.1 (dk T_X11_shortest 28 rfl) rfl (lv_at hl 0 rfl) ?_
        refine lv_iload_n X.1 X.2.1 (dk T_X11_shortest 29 rfl) rfl (lv_at hl 1 rfl) ?_
        refine lv_iload_n X.1 X.2.1 (dk T_X11_shortest 30 rfl) rfl (lv_at hl 3 rfl) ?_
        refine lv_iload X.1 X.2.1 (dk T_X11_shortest 31 rfl) (lv_at hl 4 rfl) ?_
        obtain ⟨q4, hq4, h⟩ := bs h
        refine gvI (rest := [.int ((10 * x3) + z.1), .ref (g.2.2 (120))]) X Y (c_X11_leftOf x1 x3 z.1 z.2 hq4) cb_X11_302 rfl hl.1 rfl rfl (Nat.le_of_ble_eq_true rfl) ⟨Nat.le_of_ble_eq_true rfl, Nat.le_of_ble_eq_true rfl⟩ (dk T_X11_shortest 32 rfl) (fun H locs Y => ?_)
        exact w_X11_shortest_j53 X x1 x2 x3 z.1 q4 ((10 * x3) + z.1) z.2 KB KX0 Y (lv_sub hl [0, 1, 2, 3, 4] rfl) h
      · replace h := ipos c3 h
        refine lv_iconst (v := 0) X.1 X.2.1 (dk T_X11_shortest 26 rfl) ic_0 ?_
        refine lv_goto (tgt := 53) X.1 X.2.1 (dk T_X11_shortest 27 rfl) rfl ?_
        exact w_X11_shortest_j53 X x1 x2 x3 z.1 0 ((10 * x3) + z.1) z.2 KB KX0 Y (lv_sub hl [0, 1, 2, 3, 4] rfl) h
def f_X11_shortest_l11 (x1 : Int32) (x2 : Int32) (z : Int32 × St) : Option ((Int32 × St) ⊕ (St)) :=
  if z.1 < 0 then some (.inr z.2) else (lp (f_X11_shortest_l18 x1 x2 z.1) FU (0, z.2)).bind fun q6 => some (.inl (z.1 + (-1), q6))
set_option maxHeartbeats 4000000 in
set_option maxRecDepth 100000 in
theorem w_X11_shortest_l11 (X : Cx g RX11 cX11_shortest 7 none p s m args meth c) (x1 : Int32) (x2 : Int32) (σ : St) {r : St} (KX0 : ∀ (v : St), r = v → ∀ (H : Heap) (locs : List Loc) (ls : Array Slot), Wd g s v H locs → lv_has ls 7 [(0, .ref (g.2.2 (101))), (1, .int (x1))] → W p l e (rmm 2 52) s m args below meth c H locs 0 0 Q (F0 m 66 ls [])) : ∀ (n : Nat) (z : Int32 × St) {H : Heap} {locs : List Loc} {ls : Array Slot}, Wd g s z.2 H locs → lv_has ls 7 [(0, .ref (g.2.2 (101))), (1, .int (x1)), (2, .int (x2)), (3, .int (z.1))] → lp (f_X11_shortest_l11 x1 x2) n z = some r → W p l e (rmm 2 52) s m args below meth c H locs 0 0 Q (F0 m 11 ls []) := by
  intro n
  induction n with
  | zero => intro z H locs ls Y hl h; cases h
  | succ n ih =>
    intro z H locs ls Y hl h
    obtain ⟨w, h, hw⟩ := lps h
    have KB : ∀ (v0_ : Int32) (v1_ : St), w = .inl (v0_, v1_) → ∀ (H : Heap) (locs : List Loc) (ls : Array Slot), Wd g s v1_ H locs → lv_has ls 7 [(0, .ref (g.2.2 (101))), (1, .int (x1)), (2, .int (x2)), (3, .int (v0_))] → W p l e (rmm 2 52) s m args below meth c H locs 0 0 Q (F0 m 11 ls []) := fun v0_ v1_ e H locs ls Y hl => ih (v0_, v1_) Y hl (lpl hw e)
    have KX0 := fun (v : St) (e : w = .inr v) => KX0 v (lpr hw e)
    unfold f_X11_shortest_l11 at h
    refine lv_iload_n X.1 X.2.1 (dk T_X11_shortest 9 rfl) rfl (lv_at hl 3 rfl) ?_
    refine lv_if_lt (tgt := 66) X.1 X.2.1 (dk T_X11_shortest 10 rfl) rfl (fun c1 => ?_) (fun c1 => ?_)
    · replace h := ipos c1 h
      exact KX0 z.2 (Option.some.inj h).symm _ _ _ Y (lv_sub hl [0, 1] rfl)
    · replace h := ineg c1 h
      refine lv_iconst (v := 0) X.1 X.2.1 (dk T_X11_shortest 11 rfl) ic_0 ?_
      refine lv_istore (lv' := [(4, .int (0)), (0, .ref (g.2.2 (101))), (1, .int (x1)), (2, .int (x2)), (3, .int (z.1))]) X.1 X.2.1 (dk T_X11_shortest 12 rfl) hl (Nat.le_of_ble_eq_true rfl) rfl (fun ls hl => ?_)
      obtain ⟨q6, hq6, h⟩ := bs h
      refine w_X11_shortest_l18 X x1 x2 z.1 σ (fun v e H locs ls Y hl => ?_) FU (0, z.2) Y (lv_sub hl [1, 2, 3, 4, 0] rfl) hq6
      · obtain rfl := e
        refine lv_iinc (v := z.1 + (-1)) (lv' := [(3, .int (z.1 + (-1))), (0, .ref (g.2.2 (101))), (1, .int (x1)), (2, .int (x2))]) X.1 X.2.1 (dk T_X11_shortest 36 rfl) hl (k := 3) rfl (icx ic_m1) (Nat.le_of_ble_eq_true rfl) rfl (fun ls hl => ?_)
        refine lv_goto (tgt := 11) X.1 X.2.1 (dk T_X11_shortest 37 rfl) rfl ?_
        exact KB (z.1 + (-1)) q6 (Option.some.inj h).symm _ _ _ Y (lv_sub hl [1, 2, 3, 0] rfl)
def f_X11_shortest_j184 (x1 : Int32) (x3 : Int32) (x4 : Int32) (x5 : Int32) (x6 : Int32) (σ : St) : Option ((Int32) ⊕ (Int32)) :=
  some (.inl (x6 + 1))
set_option maxHeartbeats 4000000 in
set_option maxRecDepth 100000 in
theorem w_X11_shortest_j184 (X : Cx g RX11 cX11_shortest 7 none p s m args meth c) (x1 : Int32) (x3 : Int32) (x4 : Int32) (x5 : Int32) (x6 : Int32) (σ : St) {w : (Int32) ⊕ (Int32)} (KB : ∀ (v : Int32), w = .inl v → ∀ (H : Heap) (locs : List Loc) (ls : Array Slot), Wd g s σ H locs → lv_has ls 7 [(0, .ref (g.2.2 (101))), (1, .int (x1)), (3, .int (x3)), (4, .int (x4)), (5, .int (x5)), (6, .int (v))] → W p l e (rmm 2 52) s m args below meth c H locs 0 0 Q (F0 m 98 ls [])) (KX0 : ∀ (v : Int32), w = .inr v → ∀ (H : Heap) (locs : List Loc) (ls : Array Slot), Wd g s σ H locs → lv_has ls 7 [(0, .ref (g.2.2 (101))), (1, .int (x1)), (3, .int (x3)), (5, .int (x5)), (6, .int (v))] → W p l e (rmm 2 52) s m args below meth c H locs 0 0 Q (F0 m 190 ls [])) {H : Heap} {locs : List Loc} {ls : Array Slot} (Y : Wd g s σ H locs) (hl : lv_has ls 7 [(0, .ref (g.2.2 (101))), (1, .int (x1)), (3, .int (x3)), (4, .int (x4)), (5, .int (x5)), (6, .int (x6))]) (h : f_X11_shortest_j184 x1 x3 x4 x5 x6 σ = some w) : W p l e (rmm 2 52) s m args below meth c H locs 0 0 Q (F0 m 184 ls []) := by
  unfold f_X11_shortest_j184 at h
  refine lv_iinc (v := x6 + 1) (lv' := [(6, .int (x6 + 1)), (0, .ref (g.2.2 (101))), (1, .int (x1)), (3, .int (x3)), (4, .int (x4)), (5, .int (x5))]) X.1 X.2.1 (dk T_X11_shortest 107 rfl) hl (k := 5) rfl (icx ic_1) (Nat.le_of_ble_eq_true rfl) rfl (fun ls hl => ?_)
  refine lv_goto (tgt := 98) X.1 X.2.1 (dk T_X11_shortest 108 rfl) rfl ?_
  exact KB (x6 + 1) (Option.some.inj h).symm _ _ _ Y (lv_sub hl [1, 2, 3, 4, 5, 0] rfl)
def f_X11_shortest_j141 (x1 : Int32) (x3 : Int32) (x4 : Int32) (x5 : Int32) (x6 : Int32) (s0 : Int32) (s1 : Int32) (σ : St) : Option ((Int32) ⊕ (Int32)) :=
  chk (inb x6 20) ((f_X11_far s1 s0 (σ 117 x6.toNatClampNeg) σ).bind fun q17 => chk (inb ((10 * (x3 ||| ((1 : Int32) <<< (x6 &&& 31)))) + x6) 5120) (chk (inb ((10 * x3) + x4) 5120) (if (q17 + (σ 120 ((10 * (x3 ||| ((1 : Int32) <<< (x6 &&& 31)))) + x6).toNatClampNeg)) = (σ 120 ((10 * x3) + x4).toNatClampNeg) then some (.inr x6) else f_X11_shortest_j184 x1 x3 x4 x5 x6 σ)))
set_option maxHeartbeats 4000000 in
set_option maxRecDepth 100000 in
theorem w_X11_shortest_j141 (X : Cx g RX11 cX11_shortest 7 none p s m args meth c) (x1 : Int32) (x3 : Int32) (x4 : Int32) (x5 : Int32) (x6 : Int32) (s0 : Int32) (s1 : Int32) (σ : St) {w : (Int32) ⊕ (Int32)} (KB : ∀ (v : Int32), w = .inl v → ∀ (H : Heap) (locs : List Loc) (ls : Array Slot), Wd g s σ H locs → lv_has ls 7 [(0, .ref (g.2.2 (101))), (1, .int (x1)), (3, .int (x3)), (4, .int (x4)), (5, .int (x5)), (6, .int (v))] → W p l e (rmm 2 52) s m args below meth c H locs 0 0 Q (F0 m 98 ls [])) (KX0 : ∀ (v : Int32), w = .inr v → ∀ (H : Heap) (locs : List Loc) (ls : Array Slot), Wd g s σ H locs → lv_has ls 7 [(0, .ref (g.2.2 (101))), (1, .int (x1)), (3, .int (x3)), (5, .int (x5)), (6, .int (v))] → W p l e (rmm 2 52) s m args below meth c H locs 0 0 Q (F0 m 190 ls [])) {H : Heap} {locs : List Loc} {ls : Array Slot} (Y : Wd g s σ H locs) (hl : lv_has ls 7 [(0, .ref (g.2.2 (101))), (1, .int (x1)), (3, .int (x3)), (4, .int (x4)), (5, .int (x5)), (6, .int (x6))]) (h : f_X11_shortest_j141 x1 x3 x4 x5 x6 s0 s1 σ = some w) : W p l e (rmm 2 52) s m args below meth c H locs 0 0 Q (F0 m 141 ls [.int (s0), .int (s1), .ref (g.2.2 (101))]) := by
  unfold f_X11_shortest_j141 at h
  refine lv_aload_n X.1 X.2.1 (dk T_X11_shortest 80 rfl) rfl (lv_at hl 0 rfl) ?_
  refine gg X Y fl_X11_56 rfl rfl (dk T_X11_shortest 81 rfl) ?_
  refine lv_iload X.1 X.2.1 (dk T_X11_shortest 82 rfl) (lv_at hl 5 rfl) ?_
  obtain ⟨g16, h⟩ := gd h
  refine gil X Y rfl (inp g16) (dk T_X11_shortest 83 rfl) ?_
  obtain ⟨q17, hq17, h⟩ := bs h
  refine gvI (rest := []) X Y (c_X11_far s1 s0 (σ 117 x6.toNatClampNeg) σ hq17) cb_X11_298 rfl hl.1 rfl rfl (Nat.le_of_ble_eq_true rfl) ⟨Nat.le_of_ble_eq_true rfl, Nat.le_of_ble_eq_true rfl⟩ (dk T_X11_shortest 84 rfl) (fun H locs Y => ?_)
  refine lv_aload_n X.1 X.2.1 (dk T_X11_shortest 85 rfl) rfl (lv_at hl 0 rfl) ?_
  refine gg X Y fl_X11_65 rfl rfl (dk T_X11_shortest 86 rfl) ?_
  refine lv_bipush (v := 10) X.1 X.2.1 (dk T_X11_shortest 87 rfl) bp_10 ?_
  refine lv_iload_n X.1 X.2.1 (dk T_X11_shortest 88 rfl) rfl (lv_at hl 2 rfl) ?_
  refine lv_iconst (v := 1) X.1 X.2.1 (dk T_X11_shortest 89 rfl) ic_1 ?_
  refine lv_iload X.1 X.2.1 (dk T_X11_shortest 90 rfl) (lv_at hl 5 rfl) ?_
  refine lv_ishl X.1 X.2.1 (dk T_X11_shortest 91 rfl) ?_
  refine lv_ior X.1 X.2.1 (dk T_X11_shortest 92 rfl) ?_
  refine lv_imul X.1 X.2.1 (dk T_X11_shortest 93 rfl) ?_
  refine lv_iload X.1 X.2.1 (dk T_X11_shortest 94 rfl) (lv_at hl 5 rfl) ?_
  refine lv_iadd X.1 X.2.1 (dk T_X11_shortest 95 rfl) ?_
  obtain ⟨g18, h⟩ := gd h
  refine gil X Y rfl (inp g18) (dk T_X11_shortest 96 rfl) ?_
  refine lv_iadd X.1 X.2.1 (dk T_X11_shortest 97 rfl) ?_
  refine lv_aload_n X.1 X.2.1 (dk T_X11_shortest 98 rfl) rfl (lv_at hl 0 rfl) ?_
  refine gg X Y fl_X11_65 rfl rfl (dk T_X11_shortest 99 rfl) ?_
  refine lv_bipush (v := 10) X.1 X.2.1 (dk T_X11_shortest 100 rfl) bp_10 ?_
  refine lv_iload_n X.1 X.2.1 (dk T_X11_shortest 101 rfl) rfl (lv_at hl 2 rfl) ?_
  refine lv_imul X.1 X.2.1 (dk T_X11_shortest 102 rfl) ?_
  refine lv_iload X.1 X.2.1 (dk T_X11_shortest 103 rfl) (lv_at hl 3 rfl) ?_
  refine lv_iadd X.1 X.2.1 (dk T_X11_shortest 104 rfl) ?_
  obtain ⟨g19, h⟩ := gd h
  refine gil X Y rfl (inp g19) (dk T_X11_shortest 105 rfl) ?_
  refine lv_icmp_eq (tgt := 190) X.1 X.2.1 (dk T_X11_shortest 106 rfl) rfl (fun c20 => ?_) (fun c20 => ?_)
  · replace h := ipos c20 h
    exact KX0 x6 (Option.some.inj h).symm _ _ _ Y (lv_sub hl [0, 1, 2, 4, 5] rfl)
  · replace h := ineg c20 h
    exact w_X11_shortest_j184 X x1 x3 x4 x5 x6 σ KB KX0 Y (lv_sub hl [0, 1, 2, 3, 4, 5] rfl) h
def f_X11_shortest_l98 (x1 : Int32) (x3 : Int32) (x4 : Int32) (x5 : Int32) (σ : St) (z : Int32) : Option ((Int32) ⊕ (Int32)) :=
  (f_X11_has x3 z).bind fun q10 => if q10 = 0 then chk (inb z 20) (if ((σ 118 z.toNatClampNeg) &&& (x3 ^^^ (-1))) = 0 then if x4 = 9 then f_X11_shortest_j141 x1 x3 x4 x5 z 0 x1 σ else chk (inb x4 20) (f_X11_shortest_j141 x1 x3 x4 x5 z (σ 117 x4.toNatClampNeg) x1 σ) else f_X11_shortest_j184 x1 x3 x4 x5 z σ) else f_X11_shortest_j184 x1 x3 x4 x5 z σ
set_option maxHeartbeats 4000000 in
set_option maxRecDepth 100000 in
theorem w_X11_shortest_l98 (X : Cx g RX11 cX11_shortest 7 none p s m args meth c) (x1 : Int32) (x3 : Int32) (x4 : Int32) (x5 : Int32) (σ : St) {r : Int32} (KX0 : ∀ (v : Int32), r = v → ∀ (H : Heap) (locs : List Loc) (ls : Array Slot), Wd g s σ H locs → lv_has ls 7 [(0, .ref (g.2.2 (101))), (1, .int (x1)), (3, .int (x3)), (5, .int (x5)), (6, .int (v))] → W p l e (rmm 2 52) s m args below meth c H locs 0 0 Q (F0 m 190 ls [])) : ∀ (n : Nat) (z : Int32) {H : Heap} {locs : List Loc} {ls : Array Slot}, Wd g s σ H locs → lv_has ls 7 [(0, .ref (g.2.2 (101))), (1, .int (x1)), (3, .int (x3)), (4, .int (x4)), (5, .int (x5)), (6, .int (z))] → lp (f_X11_shortest_l98 x1 x3 x4 x5 σ) n z = some r → W p l e (rmm 2 52) s m args below meth c H locs 0 0 Q (F0 m 98 ls []) := by
  intro n
  induction n with
  | zero => intro z H locs ls Y hl h; cases h
  | succ n ih =>
    intro z H locs ls Y hl h
    obtain ⟨w, h, hw⟩ := lps h
    have KB : ∀ (v : Int32), w = .inl v → ∀ (H : Heap) (locs : List Loc) (ls : Array Slot), Wd g s σ H locs → lv_has ls 7 [(0, .ref (g.2.2 (101))), (1, .int (x1)), (3, .int (x3)), (4, .int (x4)), (5, .int (x5)), (6, .int (v))] → W p l e (rmm 2 52) s m args below meth c H locs 0 0 Q (F0 m 98 ls []) := fun v e H locs ls Y hl => ih v Y hl (lpl hw e)
    have KX0 := fun (v : Int32) (e : w = .inr v) => KX0 v (lpr hw e)
    unfold f_X11_shortest_l98 at h
    refine lv_iload_n X.1 X.2.1 (dk T_X11_shortest 56 rfl) rfl (lv_at hl 2 rfl) ?_
    refine lv_iload X.1 X.2.1 (dk T_X11_shortest 57 rfl) (lv_at hl 5 rfl) ?_
    obtain ⟨q10, hq10, h⟩ := bs h
    refine gsI (rest := []) X Y (c_X11_has x3 z σ hq10) cb_X11_105 hl.1 rfl rfl (Nat.le_of_ble_eq_true rfl) ⟨Nat.le_of_ble_eq_true rfl, Nat.le_of_ble_eq_true rfl⟩ (dk T_X11_shortest 58 rfl) (fun H locs Y => ?_)
    refine lv_if_ne (tgt := 184) X.1 X.2.1 (dk T_X11_shortest 59 rfl) rfl (fun c11 => ?_) (fun c11 => ?_)
    · replace h := ineg c11 h
      exact w_X11_shortest_j184 X x1 x3 x4 x5 z σ KB KX0 Y (lv_sub hl [0, 1, 2, 3, 4, 5] rfl) h
    · replace h := ipos c11 h
      refine lv_aload_n X.1 X.2.1 (dk T_X11_shortest 60 rfl) rfl (lv_at hl 0 rfl) ?_
      refine gg X Y fl_X11_59 rfl rfl (dk T_X11_shortest 61 rfl) ?_
      refine lv_iload X.1 X.2.1 (dk T_X11_shortest 62 rfl) (lv_at hl 5 rfl) ?_
      obtain ⟨g12, h⟩ := gd h
      refine gil X Y rfl (inp g12) (dk T_X11_shortest 63 rfl) ?_
      refine lv_iload_n X.1 X.2.1 (dk T_X11_shortest 64 rfl) rfl (lv_at hl 2 rfl) ?_
      refine lv_iconst (v := (-1)) X.1 X.2.1 (dk T_X11_shortest 65 rfl) ic_m1 ?_
      refine lv_ixor X.1 X.2.1 (dk T_X11_shortest 66 rfl) ?_
      refine lv_iand X.1 X.2.1 (dk T_X11_shortest 67 rfl) ?_
      refine lv_if_ne (tgt := 184) X.1 X.2.1 (dk T_X11_shortest 68 rfl) rfl (fun c13 => ?_) (fun c13 => ?_)
      · replace h := ineg c13 h
        exact w_X11_shortest_j184 X x1 x3 x4 x5 z σ KB KX0 Y (lv_sub hl [0, 1, 2, 3, 4, 5] rfl) h
      · replace h := ipos c13 h
        refine lv_aload_n X.1 X.2.1 (dk T_X11_shortest 69 rfl) rfl (lv_at hl 0 rfl) ?_
        refine lv_iload_n X.1 X.2.1 (dk T_X11_shortest 70 rfl) rfl (lv_at hl 1 rfl) ?_
        refine lv_iload X.1 X.2.1 (dk T_X11_shortest 71 rfl) (lv_at hl 3 rfl) ?_
        refine lv_bipush (v := 9) X.1 X.2.1 (dk T_X11_shortest 72 rfl) bp_9 ?_
        refine lv_icmp_ne (tgt := 134) X.1 X.2.1 (dk T_X11_shortest 73 rfl) rfl (fun c14 => ?_) (fun c14 => ?_)
        · replace h := ineg c14 h
          refine lv_aload_n X.1 X.2.1 (dk T_X11_shortest 76 rfl) rfl (lv_at hl 0 rfl) ?_
          refine gg X Y fl_X11_56 rfl rfl (dk T_X11_shortest 77 rfl) ?_
          refine lv_iload X.1 X.2.1 (dk T_X11_shortest 78 rfl) (lv_at hl 3 rfl) ?_
          obtain ⟨g15, h⟩ := gd h
          refine gil X Y rfl (inp g15) (dk T_X11_shortest 79 rfl) ?_
          exact w_X11_shortest_j141 X x1 x3 x4 x5 z (σ 117 x4.toNatClampNeg) x1 σ KB KX0 Y (lv_sub hl [0, 1, 2, 3, 4, 5] rfl) h
        · replace h := ipos c14 h
          refine lv_iconst (v := 0) X.1 X.2.1 (dk T_X11_shortest 74 rfl) ic_0 ?_
          refine lv_goto (tgt := 141) X.1 X.2.1 (dk T_X11_shortest 75 rfl) rfl ?_
          exact w_X11_shortest_j141 X x1 x3 x4 x5 z 0 x1 σ KB KX0 Y (lv_sub hl [0, 1, 2, 3, 4, 5] rfl) h
def f_X11_shortest_l86 (x1 : Int32) (z : Int32 × Int32 × Int32 × St) : Option ((Int32 × Int32 × Int32 × St) ⊕ (St)) :=
  if (z.2.2.2 101 35) ≤ z.2.2.1 then some (.inr z.2.2.2) else (lp (f_X11_shortest_l98 x1 z.1 z.2.1 z.2.2.1 z.2.2.2) FU 0).bind fun q21 => chk (inb z.2.2.1 20) (some (.inl (z.1 ||| ((1 : Int32) <<< (q21 &&& 31)), q21, z.2.2.1 + 1, up z.2.2.2 119 z.2.2.1.toNatClampNeg q21)))
set_option maxHeartbeats 4000000 in
set_option maxRecDepth 100000 in
theorem w_X11_shortest_l86 (X : Cx g RX11 cX11_shortest 7 none p s m args meth c) (x1 : Int32) (σ : St) {r : St} (KX0 : ∀ (v : St), r = v → ∀ (H : Heap) (locs : List Loc) (ls : Array Slot), Wd g s v H locs → lv_has ls 7 [] → W p l e (rmm 2 52) s m args below meth c H locs 0 0 Q (F0 m 216 ls [])) : ∀ (n : Nat) (z : Int32 × Int32 × Int32 × St) {H : Heap} {locs : List Loc} {ls : Array Slot}, Wd g s z.2.2.2 H locs → lv_has ls 7 [(0, .ref (g.2.2 (101))), (1, .int (x1)), (3, .int (z.1)), (4, .int (z.2.1)), (5, .int (z.2.2.1))] → lp (f_X11_shortest_l86 x1) n z = some r → W p l e (rmm 2 52) s m args below meth c H locs 0 0 Q (F0 m 86 ls []) := by
  intro n
  induction n with
  | zero => intro z H locs ls Y hl h; cases h
  | succ n ih =>
    intro z H locs ls Y hl h
    obtain ⟨w, h, hw⟩ := lps h
    have KB : ∀ (v0_ : Int32) (v1_ : Int32) (v2_ : Int32) (v3_ : St), w = .inl (v0_, v1_, v2_, v3_) → ∀ (H : Heap) (locs : List Loc) (ls : Array Slot), Wd g s v3_ H locs → lv_has ls 7 [(0, .ref (g.2.2 (101))), (1, .int (x1)), (3, .int (v0_)), (4, .int (v1_)), (5, .int (v2_))] → W p l e (rmm 2 52) s m args below meth c H locs 0 0 Q (F0 m 86 ls []) := fun v0_ v1_ v2_ v3_ e H locs ls Y hl => ih (v0_, v1_, v2_, v3_) Y hl (lpl hw e)
    have KX0 := fun (v : St) (e : w = .inr v) => KX0 v (lpr hw e)
    unfold f_X11_shortest_l86 at h
    refine lv_iload X.1 X.2.1 (dk T_X11_shortest 50 rfl) (lv_at hl 4 rfl) ?_
    refine lv_aload_n X.1 X.2.1 (dk T_X11_shortest 51 rfl) rfl (lv_at hl 0 rfl) ?_
    refine gg X Y fl_X11_292 rfl rfl (dk T_X11_shortest 52 rfl) ?_
    refine lv_icmp_ge (tgt := 216) X.1 X.2.1 (dk T_X11_shortest 53 rfl) rfl (fun c9 => ?_) (fun c9 => ?_)
    · replace h := ipos c9 h
      exact KX0 z.2.2.2 (Option.some.inj h).symm _ _ _ Y (lv_sub hl [] rfl)
    · replace h := ineg c9 h
      refine lv_iconst (v := 0) X.1 X.2.1 (dk T_X11_shortest 54 rfl) ic_0 ?_
      refine lv_istore (lv' := [(6, .int (0)), (0, .ref (g.2.2 (101))), (1, .int (x1)), (3, .int (z.1)), (4, .int (z.2.1)), (5, .int (z.2.2.1))]) X.1 X.2.1 (dk T_X11_shortest 55 rfl) hl (Nat.le_of_ble_eq_true rfl) rfl (fun ls hl => ?_)
      obtain ⟨q21, hq21, h⟩ := bs h
      refine w_X11_shortest_l98 X x1 z.1 z.2.1 z.2.2.1 z.2.2.2 (fun v e H locs ls Y hl => ?_) FU 0 Y (lv_sub hl [1, 2, 3, 4, 5, 0] rfl) hq21
      · obtain rfl := e
        refine lv_aload_n X.1 X.2.1 (dk T_X11_shortest 109 rfl) rfl (lv_at hl 0 rfl) ?_
        refine gg X Y fl_X11_62 rfl rfl (dk T_X11_shortest 110 rfl) ?_
        refine lv_iload X.1 X.2.1 (dk T_X11_shortest 111 rfl) (lv_at hl 3 rfl) ?_
        refine lv_iload X.1 X.2.1 (dk T_X11_shortest 112 rfl) (lv_at hl 4 rfl) ?_
        obtain ⟨g22, h⟩ := gd h
        refine gis X Y rfl (inp g22) (dk T_X11_shortest 113 rfl) (fun H locs Y => ?_)
        refine lv_iload_n X.1 X.2.1 (dk T_X11_shortest 114 rfl) rfl (lv_at hl 2 rfl) ?_
        refine lv_iconst (v := 1) X.1 X.2.1 (dk T_X11_shortest 115 rfl) ic_1 ?_
        refine lv_iload X.1 X.2.1 (dk T_X11_shortest 116 rfl) (lv_at hl 4 rfl) ?_
        refine lv_ishl X.1 X.2.1 (dk T_X11_shortest 117 rfl) ?_
        refine lv_ior X.1 X.2.1 (dk T_X11_shortest 118 rfl) ?_
        refine lv_istore_n (lv' := [(3, .int (z.1 ||| ((1 : Int32) <<< (q21 &&& 31)))), (0, .ref (g.2.2 (101))), (1, .int (x1)), (5, .int (z.2.2.1)), (6, .int (q21))]) X.1 X.2.1 (dk T_X11_shortest 119 rfl) rfl hl (Nat.le_of_ble_eq_true rfl) rfl (fun ls hl => ?_)
        refine lv_iload X.1 X.2.1 (dk T_X11_shortest 120 rfl) (lv_at hl 4 rfl) ?_
        refine lv_istore (lv' := [(4, .int (q21)), (3, .int (z.1 ||| ((1 : Int32) <<< (q21 &&& 31)))), (0, .ref (g.2.2 (101))), (1, .int (x1)), (5, .int (z.2.2.1)), (6, .int (q21))]) X.1 X.2.1 (dk T_X11_shortest 121 rfl) hl (Nat.le_of_ble_eq_true rfl) rfl (fun ls hl => ?_)
        refine lv_iinc (v := z.2.2.1 + 1) (lv' := [(5, .int (z.2.2.1 + 1)), (4, .int (q21)), (3, .int (z.1 ||| ((1 : Int32) <<< (q21 &&& 31)))), (0, .ref (g.2.2 (101))), (1, .int (x1)), (6, .int (q21))]) X.1 X.2.1 (dk T_X11_shortest 122 rfl) hl (k := 4) rfl (icx ic_1) (Nat.le_of_ble_eq_true rfl) rfl (fun ls hl => ?_)
        refine lv_goto (tgt := 86) X.1 X.2.1 (dk T_X11_shortest 123 rfl) rfl ?_
        exact KB (z.1 ||| ((1 : Int32) <<< (q21 &&& 31))) q21 (z.2.2.1 + 1) (up z.2.2.2 119 z.2.2.1.toNatClampNeg q21) (Option.some.inj h).symm _ _ _ Y (lv_sub hl [3, 4, 2, 1, 0] rfl)
def f_X11_shortest_0 (x1 : Int32) (σ : St) : Option (St) :=
  (lp (f_X11_shortest_l11 x1 (((1 : Int32) <<< ((σ 101 35) &&& 31)) - 1)) FU (((1 : Int32) <<< ((σ 101 35) &&& 31)) - 1, σ)).bind fun q7 => chk (inb 9 5120) ((lp (f_X11_shortest_l86 x1) FU (0, 9, 0, up q7 101 36 (q7 120 (9 : Int32).toNatClampNeg))).bind fun q23 => some q23)
set_option maxHeartbeats 4000000 in
set_option maxRecDepth 100000 in
theorem w_X11_shortest_0 (X : Cx g RX11 cX11_shortest 7 none p s m args meth c) (x1 : Int32) (σ : St) {w : St} (KR : ∀ (H : Heap) (locs : List Loc) (ls : Array Slot) (pc : Nat), Wd g s w H locs → decode cX11_shortest pc = .ok (.return_, 1) → W p l e (rmm 2 52) s m args below meth c H locs 0 0 Q (F0 m pc ls [])) {H : Heap} {locs : List Loc} {ls : Array Slot} (Y : Wd g s σ H locs) (hl : lv_has ls 7 [(0, .ref (g.2.2 (101))), (1, .int (x1))]) (h : f_X11_shortest_0 x1 σ = some w) : W p l e (rmm 2 52) s m args below meth c H locs 0 0 Q (F0 m 0 ls []) := by
  unfold f_X11_shortest_0 at h
  refine lv_iconst (v := 1) X.1 X.2.1 (dk T_X11_shortest 0 rfl) ic_1 ?_
  refine lv_aload_n X.1 X.2.1 (dk T_X11_shortest 1 rfl) rfl (lv_at hl 0 rfl) ?_
  refine gg X Y fl_X11_292 rfl rfl (dk T_X11_shortest 2 rfl) ?_
  refine lv_ishl X.1 X.2.1 (dk T_X11_shortest 3 rfl) ?_
  refine lv_iconst (v := 1) X.1 X.2.1 (dk T_X11_shortest 4 rfl) ic_1 ?_
  refine lv_isub X.1 X.2.1 (dk T_X11_shortest 5 rfl) ?_
  refine lv_istore_n (lv' := [(2, .int (((1 : Int32) <<< ((σ 101 35) &&& 31)) - 1)), (0, .ref (g.2.2 (101))), (1, .int (x1))]) X.1 X.2.1 (dk T_X11_shortest 6 rfl) rfl hl (Nat.le_of_ble_eq_true rfl) rfl (fun ls hl => ?_)
  refine lv_iload_n X.1 X.2.1 (dk T_X11_shortest 7 rfl) rfl (lv_at hl 0 rfl) ?_
  refine lv_istore_n (lv' := [(3, .int (((1 : Int32) <<< ((σ 101 35) &&& 31)) - 1)), (2, .int (((1 : Int32) <<< ((σ 101 35) &&& 31)) - 1)), (0, .ref (g.2.2 (101))), (1, .int (x1))]) X.1 X.2.1 (dk T_X11_shortest 8 rfl) rfl hl (Nat.le_of_ble_eq_true rfl) rfl (fun ls hl => ?_)
  obtain ⟨q7, hq7, h⟩ := bs h
  refine w_X11_shortest_l11 X x1 (((1 : Int32) <<< ((σ 101 35) &&& 31)) - 1) σ (fun v e H locs ls Y hl => ?_) FU (((1 : Int32) <<< ((σ 101 35) &&& 31)) - 1, σ) Y (lv_sub hl [2, 3, 1, 0] rfl) hq7
  · obtain rfl := e
    refine lv_iconst (v := 0) X.1 X.2.1 (dk T_X11_shortest 38 rfl) ic_0 ?_
    refine lv_istore_n (lv' := [(3, .int (0)), (0, .ref (g.2.2 (101))), (1, .int (x1))]) X.1 X.2.1 (dk T_X11_shortest 39 rfl) rfl hl (Nat.le_of_ble_eq_true rfl) rfl (fun ls hl => ?_)
    refine lv_bipush (v := 9) X.1 X.2.1 (dk T_X11_shortest 40 rfl) bp_9 ?_
    refine lv_istore (lv' := [(4, .int (9)), (3, .int (0)), (0, .ref (g.2.2 (101))), (1, .int (x1))]) X.1 X.2.1 (dk T_X11_shortest 41 rfl) hl (Nat.le_of_ble_eq_true rfl) rfl (fun ls hl => ?_)
    refine lv_aload_n X.1 X.2.1 (dk T_X11_shortest 42 rfl) rfl (lv_at hl 2 rfl) ?_
    refine lv_aload_n X.1 X.2.1 (dk T_X11_shortest 43 rfl) rfl (lv_at hl 2 rfl) ?_
    refine gg X Y fl_X11_65 rfl rfl (dk T_X11_shortest 44 rfl) ?_
    refine lv_bipush (v := 9) X.1 X.2.1 (dk T_X11_shortest 45 rfl) bp_9 ?_
    obtain ⟨g8, h⟩ := gd h
    refine gil X Y rfl (inp g8) (dk T_X11_shortest 46 rfl) ?_
    refine gp X Y fp_X11_295 rfl (nar_int _) (dk T_X11_shortest 47 rfl) (fun H locs Y => ?_)
    refine lv_iconst (v := 0) X.1 X.2.1 (dk T_X11_shortest 48 rfl) ic_0 ?_
    refine lv_istore (lv' := [(5, .int (0)), (4, .int (9)), (3, .int (0)), (0, .ref (g.2.2 (101))), (1, .int (x1))]) X.1 X.2.1 (dk T_X11_shortest 49 rfl) hl (Nat.le_of_ble_eq_true rfl) rfl (fun ls hl => ?_)
    obtain ⟨q23, hq23, h⟩ := bs h
    refine w_X11_shortest_l86 X x1 σ (fun v e H locs ls Y hl => ?_) FU (0, 9, 0, up q7 101 36 (q7 120 (9 : Int32).toNatClampNeg)) Y (lv_sub hl [3, 4, 2, 1, 0] rfl) hq23
    · obtain rfl := e
      obtain rfl := Option.some.inj h
      exact KR _ _ _ _ Y (dk T_X11_shortest 124 rfl)
def f_X11_shortest (x1 : Int32) (σ : St) : Option (St) := f_X11_shortest_0 x1 σ
set_option maxHeartbeats 4000000 in
set_option maxRecDepth 100000 in
theorem c_X11_shortest {l : Launch} {g : Geo} (x1 : Int32) (σ : St) {w : St} (h : f_X11_shortest x1 σ = some w) : CtV l yX11_shortest cX11_shortest 7 none (rmm 2 52) g [.ref (g.2.2 (101)), .int (x1)] σ w := enV (by decide) rfl (Nat.le_of_ble_eq_true rfl) (fun p e s m args below meth c Q X Y ls hl KR => w_X11_shortest_0 X x1 σ KR Y hl h)
end
