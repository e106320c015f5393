/-! THE START: what the constructors have made is the world of the state sg0; the law's loop; the claim out of a fact on pure functions -/
def sg0 : St := fun k j => if kd k = 10 then (if j = 0 then (if k % 7 = 2 then 103 else if k % 7 = 4 then 9 else 5) else 0) else if kd k = 8 then (if j = 5 then -1 else 0) else 0
def adf (x : Nat) (u : Nat → Nat) (m : Nat) (v : Nat → Nat) (o od : Nat) : Nat → Nat := fun k => [x, (u 0), (u 1), (u 2), (u 3), (u 4), (u 5), (u 6), (u 7), (u 8), (u 9), (u 10), (u 11), (u 12), (u 13), (u 14), (u 15), (u 16), (u 17), (u 18), (u 19), (u 20), (u 23), (u 24), (u 25), (u 26), (u 27), (u 28), (u 29), (u 30), (u 31), (u 32), (u 33), (u 34), (u 35), (u 36), (u 37), (u 38), (u 39), (u 40), (u 41), (u 42), (u 43), (u 44), (u 45), (u 46), (u 47), (u 48), (u 49), (u 50), (u 51), (u 52), (u 53), (u 54), (u 55), (u 56), (u 57), (u 58), (u 59), (u 60), (u 61), (u 62), (u 63), (u 64), (u 65), (u 66), (u 67), (u 68), (u 69), (u 70), (u 71), (u 72), (u 73), (u 74), (u 75), (u 76), (u 77), (u 78), (u 21), (u 22), (u 79), (u 80), (u 81), (u 82), (u 83), (u 84), (u 85), (u 86), (u 87), (u 88), (u 89), (u 90), (u 91), (u 92), (u 93), (u 94), (u 95), (u 96), (u 97), (u 98), (u 99), m, (v 0), (v 1), (v 2), (v 3), (v 4), (v 5), (v 6), (v 7), (v 8), (v 9), (v 10), (v 11), (v 12), (v 13), (v 14), (v 15), (v 16), (v 17), (v 18), (v 19), o, od].getD k 0
def permL : List Nat := [0, 1, 2, 3, 4, 5, 6, 7, 8, 9, 10, 11, 12, 13, 14, 15, 16, 17, 18, 19, 20, 21, 24, 25, 26, 27, 28, 29, 30, 31, 32, 33, 34, 35, 36, 37, 38, 39, 40, 41, 42, 43, 44, 45, 46, 47, 48, 49, 50, 51, 52, 53, 54, 55, 56, 57, 58, 59, 60, 61, 62, 63, 64, 65, 66, 67, 68, 69, 70, 71, 72, 73, 74, 75, 76, 77, 78, 79, 22, 23, 80, 81, 82, 83, 84, 85, 86, 87, 88, 89, 90, 91, 92, 93, 94, 95, 96, 97, 98, 99, 100, 101, 102, 103, 104, 105, 106, 107, 108, 109, 110, 111, 112, 113, 114, 115, 116, 117, 118, 119, 120, 121, 122, 123]
def w_law (g : Geo) (x : Nat) (u : Nat → Nat) (m : Nat) (v : Nat → Nat) (o od : Nat) : va_W := ((w_X10_init g x u ++ w_X11_init g m v) ++ [(o, .inl (g.2.1 4, 1, .inr (.inl (fun _ => 0))))]) ++ [(od, .inl (g.2.1 5, 1, .inr (.inr (.inr (.inl (fun _ => 0))))))]
def gof (g : Geo) (ad : Nat → Nat) : Geo := (g.1, g.2.1, ad)
set_option maxRecDepth 100000 in
theorem permL_nd : va_nd permL = true := by decide +kernel
theorem permL_len : permL.length = 124 := rfl
theorem f2d0 : FP.f2d (0 : Int32).toUInt32 = 0 := by decide +kernel
/-- each cell of the world among what was made -/
def atW (g : Geo) (x : Nat) (u : Nat → Nat) (m : Nat) (v : Nat → Nat) (o od : Nat) (k : Nat) : Prop := ∃ i e, permL[k]? = some i ∧ (w_law g x u m v o od)[i]? = some (adf x u m v o od k, e) ∧ (e = ent (gof g (adf x u m v o od)) sg0 k ∨ (∃ f, e = .inl (g.2.1 3, 8, .inr (.inr (.inr (.inr f)))) ∧ ent (gof g (adf x u m v o od)) sg0 k = .inl (g.2.1 3, 8, .inr (.inr (.inr (.inr (fun i => some (adf x u m v o od (22 + 7 * i))))))) ∧ ∀ i, i < 8 → f i = some (adf x u m v o od (22 + 7 * i))))
set_option maxRecDepth 100000 in
theorem atW_0 (g : Geo) (x : Nat) (u : Nat → Nat) (m : Nat) (v : Nat → Nat) (o od : Nat) : atW g x u m v o od 0 := ⟨0, _, rfl, rfl, Or.inl rfl⟩
set_option maxRecDepth 100000 in
theorem atW_1 (g : Geo) (x : Nat) (u : Nat → Nat) (m : Nat) (v : Nat → Nat) (o od : Nat) : atW g x u m v o od 1 := ⟨1, _, rfl, rfl, Or.inl rfl⟩
set_option maxRecDepth 100000 in
theorem atW_2 (g : Geo) (x : Nat) (u : Nat → Nat) (m : Nat) (v : Nat → Nat) (o od : Nat) : atW g x u m v o od 2 := ⟨2, _, rfl, rfl, Or.inl rfl⟩
set_option maxRecDepth 100000 in
theorem atW_3 (g : Geo) (x : Nat) (u : Nat → Nat) (m : Nat) (v : Nat → Nat) (o od : Nat) : atW g x u m v o od 3 := ⟨3, _, rfl, rfl, Or.inl rfl⟩
set_option maxRecDepth 100000 in
theorem atW_4 (g : Geo) (x : Nat) (u : Nat → Nat) (m : Nat) (v : Nat → Nat) (o od : Nat) : atW g x u m v o od 4 := ⟨4, _, rfl, rfl, Or.inl rfl⟩
set_option maxRecDepth 100000 in
theorem atW_5 (g : Geo) (x : Nat) (u : Nat → Nat) (m : Nat) (v : Nat → Nat) (o od : Nat) : atW g x u m v o od 5 := ⟨5, _, rfl, rfl, Or.inl rfl⟩
set_option maxRecDepth 100000 in
theorem atW_6 (g : Geo) (x : Nat) (u : Nat → Nat) (m : Nat) (v : Nat → Nat) (o od : Nat) : atW g x u m v o od 6 := ⟨6, _, rfl, rfl, Or.inl rfl⟩
set_option maxRecDepth 100000 in
theorem atW_7 (g : Geo) (x : Nat) (u : Nat → Nat) (m : Nat) (v : Nat → Nat) (o od : Nat) : atW g x u m v o od 7 := ⟨7, _, rfl, rfl, Or.inl rfl⟩
set_option maxRecDepth 100000 in
theorem atW_8 (g : Geo) (x : Nat) (u : Nat → Nat) (m : Nat) (v : Nat → Nat) (o od : Nat) : atW g x u m v o od 8 := ⟨8, _, rfl, rfl, Or.inl rfl⟩
set_option maxRecDepth 100000 in
theorem atW_9 (g : Geo) (x : Nat) (u : Nat → Nat) (m : Nat) (v : Nat → Nat) (o od : Nat) : atW g x u m v o od 9 := ⟨9, _, rfl, rfl, Or.inl rfl⟩
set_option maxRecDepth 100000 in
theorem atW_10 (g : Geo) (x : Nat) (u : Nat → Nat) (m : Nat) (v : Nat → Nat) (o od : Nat) : atW g x u m v o od 10 := ⟨10, _, rfl, rfl, Or.inl rfl⟩
set_option maxRecDepth 100000 in
theorem atW_11 (g : Geo) (x : Nat) (u : Nat → Nat) (m : Nat) (v : Nat → Nat) (o od : Nat) : atW g x u m v o od 11 := ⟨11, _, rfl, rfl, Or.inl rfl⟩
set_option maxRecDepth 100000 in
theorem atW_12 (g : Geo) (x : Nat) (u : Nat → Nat) (m : Nat) (v : Nat → Nat) (o od : Nat) : atW g x u m v o od 12 := ⟨12, _, rfl, rfl, Or.inl rfl⟩
set_option maxRecDepth 100000 in
theorem atW_13 (g : Geo) (x : Nat) (u : Nat → Nat) (m : Nat) (v : Nat → Nat) (o od : Nat) : atW g x u m v o od 13 := ⟨13, _, rfl, rfl, Or.inl rfl⟩
set_option maxRecDepth 100000 in
theorem atW_14 (g : Geo) (x : Nat) (u : Nat → Nat) (m : Nat) (v : Nat → Nat) (o od : Nat) : atW g x u m v o od 14 := ⟨14, _, rfl, rfl, Or.inl rfl⟩
set_option maxRecDepth 100000 in
theorem atW_15 (g : Geo) (x : Nat) (u : Nat → Nat) (m : Nat) (v : Nat → Nat) (o od : Nat) : atW g x u m v o od 15 := ⟨15, _, rfl, rfl, Or.inl rfl⟩
set_option maxRecDepth 100000 in
theorem atW_16 (g : Geo) (x : Nat) (u : Nat → Nat) (m : Nat) (v : Nat → Nat) (o od : Nat) : atW g x u m v o od 16 := ⟨16, _, rfl, rfl, Or.inl rfl⟩
set_option maxRecDepth 100000 in
theorem atW_17 (g : Geo) (x : Nat) (u : Nat → Nat) (m : Nat) (v : Nat → Nat) (o od : Nat) : atW g x u m v o od 17 := ⟨17, _, rfl, rfl, Or.inl rfl⟩
set_option maxRecDepth 100000 in
theorem atW_18 (g : Geo) (x : Nat) (u : Nat → Nat) (m : Nat) (v : Nat → Nat) (o od : Nat) : atW g x u m v o od 18 := ⟨18, _, rfl, rfl, Or.inl rfl⟩
set_option maxRecDepth 100000 in
theorem atW_19 (g : Geo) (x : Nat) (u : Nat → Nat) (m : Nat) (v : Nat → Nat) (o od : Nat) : atW g x u m v o od 19 := ⟨19, _, rfl, rfl, Or.inl rfl⟩
set_option maxRecDepth 100000 in
theorem atW_20 (g : Geo) (x : Nat) (u : Nat → Nat) (m : Nat) (v : Nat → Nat) (o od : Nat) : atW g x u m v o od 20 := ⟨20, _, rfl, rfl, Or.inl rfl⟩
set_option maxRecDepth 100000 in
theorem atW_21 (g : Geo) (x : Nat) (u : Nat → Nat) (m : Nat) (v : Nat → Nat) (o od : Nat) : atW g x u m v o od 21 := ⟨21, _, rfl, rfl, Or.inl rfl⟩
set_option maxRecDepth 100000 in
theorem atW_22 (g : Geo) (x : Nat) (u : Nat → Nat) (m : Nat) (v : Nat → Nat) (o od : Nat) : atW g x u m v o od 22 := ⟨24, _, rfl, rfl, Or.inl rfl⟩
set_option maxRecDepth 100000 in
theorem atW_23 (g : Geo) (x : Nat) (u : Nat → Nat) (m : Nat) (v : Nat → Nat) (o od : Nat) : atW g x u m v o od 23 := ⟨25, _, rfl, rfl, Or.inl rfl⟩
set_option maxRecDepth 100000 in
theorem atW_24 (g : Geo) (x : Nat) (u : Nat → Nat) (m : Nat) (v : Nat → Nat) (o od : Nat) : atW g x u m v o od 24 := ⟨26, _, rfl, rfl, Or.inl rfl⟩
set_option maxRecDepth 100000 in
theorem atW_25 (g : Geo) (x : Nat) (u : Nat → Nat) (m : Nat) (v : Nat → Nat) (o od : Nat) : atW g x u m v o od 25 := ⟨27, _, rfl, rfl, Or.inl rfl⟩
set_option maxRecDepth 100000 in
theorem atW_26 (g : Geo) (x : Nat) (u : Nat → Nat) (m : Nat) (v : Nat → Nat) (o od : Nat) : atW g x u m v o od 26 := ⟨28, _, rfl, rfl, Or.inl rfl⟩
set_option maxRecDepth 100000 in
theorem atW_27 (g : Geo) (x : Nat) (u : Nat → Nat) (m : Nat) (v : Nat → Nat) (o od : Nat) : atW g x u m v o od 27 := ⟨29, _, rfl, rfl, Or.inl rfl⟩
set_option maxRecDepth 100000 in
theorem atW_28 (g : Geo) (x : Nat) (u : Nat → Nat) (m : Nat) (v : Nat → Nat) (o od : Nat) : atW g x u m v o od 28 := ⟨30, _, rfl, rfl, Or.inl rfl⟩
set_option maxRecDepth 100000 in
theorem atW_29 (g : Geo) (x : Nat) (u : Nat → Nat) (m : Nat) (v : Nat → Nat) (o od : Nat) : atW g x u m v o od 29 := ⟨31, _, rfl, rfl, Or.inl rfl⟩
set_option maxRecDepth 100000 in
theorem atW_30 (g : Geo) (x : Nat) (u : Nat → Nat) (m : Nat) (v : Nat → Nat) (o od : Nat) : atW g x u m v o od 30 := ⟨32, _, rfl, rfl, Or.inl rfl⟩
set_option maxRecDepth 100000 in
theorem atW_31 (g : Geo) (x : Nat) (u : Nat → Nat) (m : Nat) (v : Nat → Nat) (o od : Nat) : atW g x u m v o od 31 := ⟨33, _, rfl, rfl, Or.inl rfl⟩
set_option maxRecDepth 100000 in
theorem atW_32 (g : Geo) (x : Nat) (u : Nat → Nat) (m : Nat) (v : Nat → Nat) (o od : Nat) : atW g x u m v o od 32 := ⟨34, _, rfl, rfl, Or.inl rfl⟩
set_option maxRecDepth 100000 in
theorem atW_33 (g : Geo) (x : Nat) (u : Nat → Nat) (m : Nat) (v : Nat → Nat) (o od : Nat) : atW g x u m v o od 33 := ⟨35, _, rfl, rfl, Or.inl rfl⟩
set_option maxRecDepth 100000 in
theorem atW_34 (g : Geo) (x : Nat) (u : Nat → Nat) (m : Nat) (v : Nat → Nat) (o od : Nat) : atW g x u m v o od 34 := ⟨36, _, rfl, rfl, Or.inl rfl⟩
set_option maxRecDepth 100000 in
theorem atW_35 (g : Geo) (x : Nat) (u : Nat → Nat) (m : Nat) (v : Nat → Nat) (o od : Nat) : atW g x u m v o od 35 := ⟨37, _, rfl, rfl, Or.inl rfl⟩
set_option maxRecDepth 100000 in
theorem atW_36 (g : Geo) (x : Nat) (u : Nat → Nat) (m : Nat) (v : Nat → Nat) (o od : Nat) : atW g x u m v o od 36 := ⟨38, _, rfl, rfl, Or.inl rfl⟩
set_option maxRecDepth 100000 in
theorem atW_37 (g : Geo) (x : Nat) (u : Nat → Nat) (m : Nat) (v : Nat → Nat) (o od : Nat) : atW g x u m v o od 37 := ⟨39, _, rfl, rfl, Or.inl rfl⟩
set_option maxRecDepth 100000 in
theorem atW_38 (g : Geo) (x : Nat) (u : Nat → Nat) (m : Nat) (v : Nat → Nat) (o od : Nat) : atW g x u m v o od 38 := ⟨40, _, rfl, rfl, Or.inl rfl⟩
set_option maxRecDepth 100000 in
theorem atW_39 (g : Geo) (x : Nat) (u : Nat → Nat) (m : Nat) (v : Nat → Nat) (o od : Nat) : atW g x u m v o od 39 := ⟨41, _, rfl, rfl, Or.inl rfl⟩
set_option maxRecDepth 100000 in
theorem atW_40 (g : Geo) (x : Nat) (u : Nat → Nat) (m : Nat) (v : Nat → Nat) (o od : Nat) : atW g x u m v o od 40 := ⟨42, _, rfl, rfl, Or.inl rfl⟩
set_option maxRecDepth 100000 in
theorem atW_41 (g : Geo) (x : Nat) (u : Nat → Nat) (m : Nat) (v : Nat → Nat) (o od : Nat) : atW g x u m v o od 41 := ⟨43, _, rfl, rfl, Or.inl rfl⟩
set_option maxRecDepth 100000 in
theorem atW_42 (g : Geo) (x : Nat) (u : Nat → Nat) (m : Nat) (v : Nat → Nat) (o od : Nat) : atW g x u m v o od 42 := ⟨44, _, rfl, rfl, Or.inl rfl⟩
set_option maxRecDepth 100000 in
theorem atW_43 (g : Geo) (x : Nat) (u : Nat → Nat) (m : Nat) (v : Nat → Nat) (o od : Nat) : atW g x u m v o od 43 := ⟨45, _, rfl, rfl, Or.inl rfl⟩
set_option maxRecDepth 100000 in
theorem atW_44 (g : Geo) (x : Nat) (u : Nat → Nat) (m : Nat) (v : Nat → Nat) (o od : Nat) : atW g x u m v o od 44 := ⟨46, _, rfl, rfl, Or.inl rfl⟩
set_option maxRecDepth 100000 in
theorem atW_45 (g : Geo) (x : Nat) (u : Nat → Nat) (m : Nat) (v : Nat → Nat) (o od : Nat) : atW g x u m v o od 45 := ⟨47, _, rfl, rfl, Or.inl rfl⟩
set_option maxRecDepth 100000 in
theorem atW_46 (g : Geo) (x : Nat) (u : Nat → Nat) (m : Nat) (v : Nat → Nat) (o od : Nat) : atW g x u m v o od 46 := ⟨48, _, rfl, rfl, Or.inl rfl⟩
set_option maxRecDepth 100000 in
theorem atW_47 (g : Geo) (x : Nat) (u : Nat → Nat) (m : Nat) (v : Nat → Nat) (o od : Nat) : atW g x u m v o od 47 := ⟨49, _, rfl, rfl, Or.inl rfl⟩
set_option maxRecDepth 100000 in
theorem atW_48 (g : Geo) (x : Nat) (u : Nat → Nat) (m : Nat) (v : Nat → Nat) (o od : Nat) : atW g x u m v o od 48 := ⟨50, _, rfl, rfl, Or.inl rfl⟩
set_option maxRecDepth 100000 in
theorem atW_49 (g : Geo) (x : Nat) (u : Nat → Nat) (m : Nat) (v : Nat → Nat) (o od : Nat) : atW g x u m v o od 49 := ⟨51, _, rfl, rfl, Or.inl rfl⟩
set_option maxRecDepth 100000 in
theorem atW_50 (g : Geo) (x : Nat) (u : Nat → Nat) (m : Nat) (v : Nat → Nat) (o od : Nat) : atW g x u m v o od 50 := ⟨52, _, rfl, rfl, Or.inl rfl⟩
set_option maxRecDepth 100000 in
theorem atW_51 (g : Geo) (x : Nat) (u : Nat → Nat) (m : Nat) (v : Nat → Nat) (o od : Nat) : atW g x u m v o od 51 := ⟨53, _, rfl, rfl, Or.inl rfl⟩
set_option maxRecDepth 100000 in
theorem atW_52 (g : Geo) (x : Nat) (u : Nat → Nat) (m : Nat) (v : Nat → Nat) (o od : Nat) : atW g x u m v o od 52 := ⟨54, _, rfl, rfl, Or.inl rfl⟩
set_option maxRecDepth 100000 in
theorem atW_53 (g : Geo) (x : Nat) (u : Nat → Nat) (m : Nat) (v : Nat → Nat) (o od : Nat) : atW g x u m v o od 53 := ⟨55, _, rfl, rfl, Or.inl rfl⟩
set_option maxRecDepth 100000 in
theorem atW_54 (g : Geo) (x : Nat) (u : Nat → Nat) (m : Nat) (v : Nat → Nat) (o od : Nat) : atW g x u m v o od 54 := ⟨56, _, rfl, rfl, Or.inl rfl⟩
set_option maxRecDepth 100000 in
theorem atW_55 (g : Geo) (x : Nat) (u : Nat → Nat) (m : Nat) (v : Nat → Nat) (o od : Nat) : atW g x u m v o od 55 := ⟨57, _, rfl, rfl, Or.inl rfl⟩
set_option maxRecDepth 100000 in
theorem atW_56 (g : Geo) (x : Nat) (u : Nat → Nat) (m : Nat) (v : Nat → Nat) (o od : Nat) : atW g x u m v o od 56 := ⟨58, _, rfl, rfl, Or.inl rfl⟩
set_option maxRecDepth 100000 in
theorem atW_57 (g : Geo) (x : Nat) (u : Nat → Nat) (m : Nat) (v : Nat → Nat) (o od : Nat) : atW g x u m v o od 57 := ⟨59, _, rfl, rfl, Or.inl rfl⟩
set_option maxRecDepth 100000 in
theorem atW_58 (g : Geo) (x : Nat) (u : Nat → Nat) (m : Nat) (v : Nat → Nat) (o od : Nat) : atW g x u m v o od 58 := ⟨60, _, rfl, rfl, Or.inl rfl⟩
set_option maxRecDepth 100000 in
theorem atW_59 (g : Geo) (x : Nat) (u : Nat → Nat) (m : Nat) (v : Nat → Nat) (o od : Nat) : atW g x u m v o od 59 := ⟨61, _, rfl, rfl, Or.inl rfl⟩
set_option maxRecDepth 100000 in
theorem atW_60 (g : Geo) (x : Nat) (u : Nat → Nat) (m : Nat) (v : Nat → Nat) (o od : Nat) : atW g x u m v o od 60 := ⟨62, _, rfl, rfl, Or.inl rfl⟩
set_option maxRecDepth 100000 in
theorem atW_61 (g : Geo) (x : Nat) (u : Nat → Nat) (m : Nat) (v : Nat → Nat) (o od : Nat) : atW g x u m v o od 61 := ⟨63, _, rfl, rfl, Or.inl rfl⟩
set_option maxRecDepth 100000 in
theorem atW_62 (g : Geo) (x : Nat) (u : Nat → Nat) (m : Nat) (v : Nat → Nat) (o od : Nat) : atW g x u m v o od 62 := ⟨64, _, rfl, rfl, Or.inl rfl⟩
set_option maxRecDepth 100000 in
theorem atW_63 (g : Geo) (x : Nat) (u : Nat → Nat) (m : Nat) (v : Nat → Nat) (o od : Nat) : atW g x u m v o od 63 := ⟨65, _, rfl, rfl, Or.inl rfl⟩
set_option maxRecDepth 100000 in
theorem atW_64 (g : Geo) (x : Nat) (u : Nat → Nat) (m : Nat) (v : Nat → Nat) (o od : Nat) : atW g x u m v o od 64 := ⟨66, _, rfl, rfl, Or.inl rfl⟩
set_option maxRecDepth 100000 in
theorem atW_65 (g : Geo) (x : Nat) (u : Nat → Nat) (m : Nat) (v : Nat → Nat) (o od : Nat) : atW g x u m v o od 65 := ⟨67, _, rfl, rfl, Or.inl rfl⟩
set_option maxRecDepth 100000 in
theorem atW_66 (g : Geo) (x : Nat) (u : Nat → Nat) (m : Nat) (v : Nat → Nat) (o od : Nat) : atW g x u m v o od 66 := ⟨68, _, rfl, rfl, Or.inl rfl⟩
set_option maxRecDepth 100000 in
theorem atW_67 (g : Geo) (x : Nat) (u : Nat → Nat) (m : Nat) (v : Nat → Nat) (o od : Nat) : atW g x u m v o od 67 := ⟨69, _, rfl, rfl, Or.inl rfl⟩
set_option maxRecDepth 100000 in
theorem atW_68 (g : Geo) (x : Nat) (u : Nat → Nat) (m : Nat) (v : Nat → Nat) (o od : Nat) : atW g x u m v o od 68 := ⟨70, _, rfl, rfl, Or.inl rfl⟩
set_option maxRecDepth 100000 in
theorem atW_69 (g : Geo) (x : Nat) (u : Nat → Nat) (m : Nat) (v : Nat → Nat) (o od : Nat) : atW g x u m v o od 69 := ⟨71, _, rfl, rfl, Or.inl rfl⟩
set_option maxRecDepth 100000 in
theorem atW_70 (g : Geo) (x : Nat) (u : Nat → Nat) (m : Nat) (v : Nat → Nat) (o od : Nat) : atW g x u m v o od 70 := ⟨72, _, rfl, rfl, Or.inl rfl⟩
set_option maxRecDepth 100000 in
theorem atW_71 (g : Geo) (x : Nat) (u : Nat → Nat) (m : Nat) (v : Nat → Nat) (o od : Nat) : atW g x u m v o od 71 := ⟨73, _, rfl, rfl, Or.inl rfl⟩
set_option maxRecDepth 100000 in
theorem atW_72 (g : Geo) (x : Nat) (u : Nat → Nat) (m : Nat) (v : Nat → Nat) (o od : Nat) : atW g x u m v o od 72 := ⟨74, _, rfl, rfl, Or.inl rfl⟩
set_option maxRecDepth 100000 in
theorem atW_73 (g : Geo) (x : Nat) (u : Nat → Nat) (m : Nat) (v : Nat → Nat) (o od : Nat) : atW g x u m v o od 73 := ⟨75, _, rfl, rfl, Or.inl rfl⟩
set_option maxRecDepth 100000 in
theorem atW_74 (g : Geo) (x : Nat) (u : Nat → Nat) (m : Nat) (v : Nat → Nat) (o od : Nat) : atW g x u m v o od 74 := ⟨76, _, rfl, rfl, Or.inl rfl⟩
set_option maxRecDepth 100000 in
theorem atW_75 (g : Geo) (x : Nat) (u : Nat → Nat) (m : Nat) (v : Nat → Nat) (o od : Nat) : atW g x u m v o od 75 := ⟨77, _, rfl, rfl, Or.inl rfl⟩
set_option maxRecDepth 100000 in
theorem atW_76 (g : Geo) (x : Nat) (u : Nat → Nat) (m : Nat) (v : Nat → Nat) (o od : Nat) : atW g x u m v o od 76 := ⟨78, _, rfl, rfl, Or.inl rfl⟩
set_option maxRecDepth 100000 in
theorem atW_77 (g : Geo) (x : Nat) (u : Nat → Nat) (m : Nat) (v : Nat → Nat) (o od : Nat) : atW g x u m v o od 77 := ⟨79, _, rfl, rfl, Or.inl rfl⟩
set_option maxRecDepth 100000 in
theorem atW_78 (g : Geo) (x : Nat) (u : Nat → Nat) (m : Nat) (v : Nat → Nat) (o od : Nat) : atW g x u m v o od 78 := ⟨22, _, rfl, rfl, Or.inl rfl⟩
set_option maxRecDepth 100000 in
theorem atW_79 (g : Geo) (x : Nat) (u : Nat → Nat) (m : Nat) (v : Nat → Nat) (o od : Nat) : atW g x u m v o od 79 := ⟨23, _, rfl, rfl, Or.inr ⟨_, rfl, rfl, fun i hi => by
  match i, hi with
  | 0, _ => rfl
  | 1, _ => rfl
  | 2, _ => rfl
  | 3, _ => rfl
  | 4, _ => rfl
  | 5, _ => rfl
  | 6, _ => rfl
  | 7, _ => rfl
  | n + 8, h => exact absurd h (by omega)⟩⟩
set_option maxRecDepth 100000 in
theorem atW_80 (g : Geo) (x : Nat) (u : Nat → Nat) (m : Nat) (v : Nat → Nat) (o od : Nat) : atW g x u m v o od 80 := ⟨80, _, rfl, rfl, Or.inl rfl⟩
set_option maxRecDepth 100000 in
theorem atW_81 (g : Geo) (x : Nat) (u : Nat → Nat) (m : Nat) (v : Nat → Nat) (o od : Nat) : atW g x u m v o od 81 := ⟨81, _, rfl, rfl, Or.inl rfl⟩
set_option maxRecDepth 100000 in
theorem atW_82 (g : Geo) (x : Nat) (u : Nat → Nat) (m : Nat) (v : Nat → Nat) (o od : Nat) : atW g x u m v o od 82 := ⟨82, _, rfl, rfl, Or.inl rfl⟩
set_option maxRecDepth 100000 in
theorem atW_83 (g : Geo) (x : Nat) (u : Nat → Nat) (m : Nat) (v : Nat → Nat) (o od : Nat) : atW g x u m v o od 83 := ⟨83, _, rfl, rfl, Or.inl rfl⟩
set_option maxRecDepth 100000 in
theorem atW_84 (g : Geo) (x : Nat) (u : Nat → Nat) (m : Nat) (v : Nat → Nat) (o od : Nat) : atW g x u m v o od 84 := ⟨84, _, rfl, rfl, Or.inl rfl⟩
set_option maxRecDepth 100000 in
theorem atW_85 (g : Geo) (x : Nat) (u : Nat → Nat) (m : Nat) (v : Nat → Nat) (o od : Nat) : atW g x u m v o od 85 := ⟨85, _, rfl, rfl, Or.inl rfl⟩
set_option maxRecDepth 100000 in
theorem atW_86 (g : Geo) (x : Nat) (u : Nat → Nat) (m : Nat) (v : Nat → Nat) (o od : Nat) : atW g x u m v o od 86 := ⟨86, _, rfl, rfl, Or.inl rfl⟩
set_option maxRecDepth 100000 in
theorem atW_87 (g : Geo) (x : Nat) (u : Nat → Nat) (m : Nat) (v : Nat → Nat) (o od : Nat) : atW g x u m v o od 87 := ⟨87, _, rfl, rfl, Or.inl rfl⟩
set_option maxRecDepth 100000 in
theorem atW_88 (g : Geo) (x : Nat) (u : Nat → Nat) (m : Nat) (v : Nat → Nat) (o od : Nat) : atW g x u m v o od 88 := ⟨88, _, rfl, rfl, Or.inl rfl⟩
set_option maxRecDepth 100000 in
theorem atW_89 (g : Geo) (x : Nat) (u : Nat → Nat) (m : Nat) (v : Nat → Nat) (o od : Nat) : atW g x u m v o od 89 := ⟨89, _, rfl, rfl, Or.inl rfl⟩
set_option maxRecDepth 100000 in
theorem atW_90 (g : Geo) (x : Nat) (u : Nat → Nat) (m : Nat) (v : Nat → Nat) (o od : Nat) : atW g x u m v o od 90 := ⟨90, _, rfl, rfl, Or.inl rfl⟩
set_option maxRecDepth 100000 in
theorem atW_91 (g : Geo) (x : Nat) (u : Nat → Nat) (m : Nat) (v : Nat → Nat) (o od : Nat) : atW g x u m v o od 91 := ⟨91, _, rfl, rfl, Or.inl rfl⟩
set_option maxRecDepth 100000 in
theorem atW_92 (g : Geo) (x : Nat) (u : Nat → Nat) (m : Nat) (v : Nat → Nat) (o od : Nat) : atW g x u m v o od 92 := ⟨92, _, rfl, rfl, Or.inl rfl⟩
set_option maxRecDepth 100000 in
theorem atW_93 (g : Geo) (x : Nat) (u : Nat → Nat) (m : Nat) (v : Nat → Nat) (o od : Nat) : atW g x u m v o od 93 := ⟨93, _, rfl, rfl, Or.inl rfl⟩
set_option maxRecDepth 100000 in
theorem atW_94 (g : Geo) (x : Nat) (u : Nat → Nat) (m : Nat) (v : Nat → Nat) (o od : Nat) : atW g x u m v o od 94 := ⟨94, _, rfl, rfl, Or.inl rfl⟩
set_option maxRecDepth 100000 in
theorem atW_95 (g : Geo) (x : Nat) (u : Nat → Nat) (m : Nat) (v : Nat → Nat) (o od : Nat) : atW g x u m v o od 95 := ⟨95, _, rfl, rfl, Or.inl rfl⟩
set_option maxRecDepth 100000 in
theorem atW_96 (g : Geo) (x : Nat) (u : Nat → Nat) (m : Nat) (v : Nat → Nat) (o od : Nat) : atW g x u m v o od 96 := ⟨96, _, rfl, rfl, Or.inl rfl⟩
set_option maxRecDepth 100000 in
theorem atW_97 (g : Geo) (x : Nat) (u : Nat → Nat) (m : Nat) (v : Nat → Nat) (o od : Nat) : atW g x u m v o od 97 := ⟨97, _, rfl, rfl, Or.inl rfl⟩
set_option maxRecDepth 100000 in
theorem atW_98 (g : Geo) (x : Nat) (u : Nat → Nat) (m : Nat) (v : Nat → Nat) (o od : Nat) : atW g x u m v o od 98 := ⟨98, _, rfl, rfl, Or.inl rfl⟩
set_option maxRecDepth 100000 in
theorem atW_99 (g : Geo) (x : Nat) (u : Nat → Nat) (m : Nat) (v : Nat → Nat) (o od : Nat) : atW g x u m v o od 99 := ⟨99, _, rfl, rfl, Or.inl rfl⟩
set_option maxRecDepth 100000 in
theorem atW_100 (g : Geo) (x : Nat) (u : Nat → Nat) (m : Nat) (v : Nat → Nat) (o od : Nat) : atW g x u m v o od 100 := ⟨100, _, rfl, rfl, Or.inl rfl⟩
set_option maxRecDepth 100000 in
theorem atW_101 (g : Geo) (x : Nat) (u : Nat → Nat) (m : Nat) (v : Nat → Nat) (o od : Nat) : atW g x u m v o od 101 := ⟨101, _, rfl, rfl, Or.inl rfl⟩
set_option maxRecDepth 100000 in
theorem atW_102 (g : Geo) (x : Nat) (u : Nat → Nat) (m : Nat) (v : Nat → Nat) (o od : Nat) : atW g x u m v o od 102 := ⟨102, _, rfl, rfl, Or.inl rfl⟩
set_option maxRecDepth 100000 in
theorem atW_103 (g : Geo) (x : Nat) (u : Nat → Nat) (m : Nat) (v : Nat → Nat) (o od : Nat) : atW g x u m v o od 103 := ⟨103, _, rfl, rfl, Or.inl rfl⟩
set_option maxRecDepth 100000 in
theorem atW_104 (g : Geo) (x : Nat) (u : Nat → Nat) (m : Nat) (v : Nat → Nat) (o od : Nat) : atW g x u m v o od 104 := ⟨104, _, rfl, rfl, Or.inl rfl⟩
set_option maxRecDepth 100000 in
theorem atW_105 (g : Geo) (x : Nat) (u : Nat → Nat) (m : Nat) (v : Nat → Nat) (o od : Nat) : atW g x u m v o od 105 := ⟨105, _, rfl, rfl, Or.inl rfl⟩
set_option maxRecDepth 100000 in
theorem atW_106 (g : Geo) (x : Nat) (u : Nat → Nat) (m : Nat) (v : Nat → Nat) (o od : Nat) : atW g x u m v o od 106 := ⟨106, _, rfl, rfl, Or.inl rfl⟩
set_option maxRecDepth 100000 in
theorem atW_107 (g : Geo) (x : Nat) (u : Nat → Nat) (m : Nat) (v : Nat → Nat) (o od : Nat) : atW g x u m v o od 107 := ⟨107, _, rfl, rfl, Or.inl rfl⟩
set_option maxRecDepth 100000 in
theorem atW_108 (g : Geo) (x : Nat) (u : Nat → Nat) (m : Nat) (v : Nat → Nat) (o od : Nat) : atW g x u m v o od 108 := ⟨108, _, rfl, rfl, Or.inl rfl⟩
set_option maxRecDepth 100000 in
theorem atW_109 (g : Geo) (x : Nat) (u : Nat → Nat) (m : Nat) (v : Nat → Nat) (o od : Nat) : atW g x u m v o od 109 := ⟨109, _, rfl, rfl, Or.inl rfl⟩
set_option maxRecDepth 100000 in
theorem atW_110 (g : Geo) (x : Nat) (u : Nat → Nat) (m : Nat) (v : Nat → Nat) (o od : Nat) : atW g x u m v o od 110 := ⟨110, _, rfl, rfl, Or.inl rfl⟩
set_option maxRecDepth 100000 in
theorem atW_111 (g : Geo) (x : Nat) (u : Nat → Nat) (m : Nat) (v : Nat → Nat) (o od : Nat) : atW g x u m v o od 111 := ⟨111, _, rfl, rfl, Or.inl rfl⟩
set_option maxRecDepth 100000 in
theorem atW_112 (g : Geo) (x : Nat) (u : Nat → Nat) (m : Nat) (v : Nat → Nat) (o od : Nat) : atW g x u m v o od 112 := ⟨112, _, rfl, rfl, Or.inl rfl⟩
set_option maxRecDepth 100000 in
theorem atW_113 (g : Geo) (x : Nat) (u : Nat → Nat) (m : Nat) (v : Nat → Nat) (o od : Nat) : atW g x u m v o od 113 := ⟨113, _, rfl, rfl, Or.inl rfl⟩
set_option maxRecDepth 100000 in
theorem atW_114 (g : Geo) (x : Nat) (u : Nat → Nat) (m : Nat) (v : Nat → Nat) (o od : Nat) : atW g x u m v o od 114 := ⟨114, _, rfl, rfl, Or.inl rfl⟩
set_option maxRecDepth 100000 in
theorem atW_115 (g : Geo) (x : Nat) (u : Nat → Nat) (m : Nat) (v : Nat → Nat) (o od : Nat) : atW g x u m v o od 115 := ⟨115, _, rfl, rfl, Or.inl rfl⟩
set_option maxRecDepth 100000 in
theorem atW_116 (g : Geo) (x : Nat) (u : Nat → Nat) (m : Nat) (v : Nat → Nat) (o od : Nat) : atW g x u m v o od 116 := ⟨116, _, rfl, rfl, Or.inl rfl⟩
set_option maxRecDepth 100000 in
theorem atW_117 (g : Geo) (x : Nat) (u : Nat → Nat) (m : Nat) (v : Nat → Nat) (o od : Nat) : atW g x u m v o od 117 := ⟨117, _, rfl, rfl, Or.inl rfl⟩
set_option maxRecDepth 100000 in
theorem atW_118 (g : Geo) (x : Nat) (u : Nat → Nat) (m : Nat) (v : Nat → Nat) (o od : Nat) : atW g x u m v o od 118 := ⟨118, _, rfl, rfl, Or.inl rfl⟩
set_option maxRecDepth 100000 in
theorem atW_119 (g : Geo) (x : Nat) (u : Nat → Nat) (m : Nat) (v : Nat → Nat) (o od : Nat) : atW g x u m v o od 119 := ⟨119, _, rfl, rfl, Or.inl rfl⟩
set_option maxRecDepth 100000 in
theorem atW_120 (g : Geo) (x : Nat) (u : Nat → Nat) (m : Nat) (v : Nat → Nat) (o od : Nat) : atW g x u m v o od 120 := ⟨120, _, rfl, rfl, Or.inl rfl⟩
set_option maxRecDepth 100000 in
theorem atW_121 (g : Geo) (x : Nat) (u : Nat → Nat) (m : Nat) (v : Nat → Nat) (o od : Nat) : atW g x u m v o od 121 := ⟨121, _, rfl, rfl, Or.inl rfl⟩
set_option maxRecDepth 100000 in
theorem atW_122 (g : Geo) (x : Nat) (u : Nat → Nat) (m : Nat) (v : Nat → Nat) (o od : Nat) : atW g x u m v o od 122 := ⟨122, _, rfl, rfl, Or.inl (by
  rw [ent_long (by rfl)]
  rfl)⟩
set_option maxRecDepth 100000 in
theorem atW_123 (g : Geo) (x : Nat) (u : Nat → Nat) (m : Nat) (v : Nat → Nat) (o od : Nat) : atW g x u m v o od 123 := ⟨123, _, rfl, rfl, Or.inl (by
  rw [ent_dbl (by rfl)]
  have h : (fun i => FP.f2d (sg0 123 i).toUInt32) = fun _ => 0 := funext fun _ => f2d0
  rw [h]
  rfl)⟩
theorem atW_all (g : Geo) (x : Nat) (u : Nat → Nat) (m : Nat) (v : Nat → Nat) (o od : Nat) : ∀ k, k < 124 → atW g x u m v o od k := by
  intro k hk
  match k, hk with
  | 0, _ => exact atW_0 g x u m v o od
  | 1, _ => exact atW_1 g x u m v o od
  | 2, _ => exact atW_2 g x u m v o od
  | 3, _ => exact atW_3 g x u m v o od
  | 4, _ => exact atW_4 g x u m v o od
  | 5, _ => exact atW_5 g x u m v o od
  | 6, _ => exact atW_6 g x u m v o od
  | 7, _ => exact atW_7 g x u m v o od
  | 8, _ => exact atW_8 g x u m v o od
  | 9, _ => exact atW_9 g x u m v o od
  | 10, _ => exact atW_10 g x u m v o od
  | 11, _ => exact atW_11 g x u m v o od
  | 12, _ => exact atW_12 g x u m v o od
  | 13, _ => exact atW_13 g x u m v o od
  | 14, _ => exact atW_14 g x u m v o od
  | 15, _ => exact atW_15 g x u m v o od
  | 16, _ => exact atW_16 g x u m v o od
  | 17, _ => exact atW_17 g x u m v o od
  | 18, _ => exact atW_18 g x u m v o od
  | 19, _ => exact atW_19 g x u m v o od
  | 20, _ => exact atW_20 g x u m v o od
  | 21, _ => exact atW_21 g x u m v o od
  | 22, _ => exact atW_22 g x u m v o od
  | 23, _ => exact atW_23 g x u m v o od
  | 24, _ => exact atW_24 g x u m v o od
  | 25, _ => exact atW_25 g x u m v o od
  | 26, _ => exact atW_26 g x u m v o od
  | 27, _ => exact atW_27 g x u m v o od
  | 28, _ => exact atW_28 g x u m v o od
  | 29, _ => exact atW_29 g x u m v o od
  | 30, _ => exact atW_30 g x u m v o od
  | 31, _ => exact atW_31 g x u m v o od
  | 32, _ => exact atW_32 g x u m v o od
  | 33, _ => exact atW_33 g x u m v o od
  | 34, _ => exact atW_34 g x u m v o od
  | 35, _ => exact atW_35 g x u m v o od
  | 36, _ => exact atW_36 g x u m v o od
  | 37, _ => exact atW_37 g x u m v o od
  | 38, _ => exact atW_38 g x u m v o od
  | 39, _ => exact atW_39 g x u m v o od
  | 40, _ => exact atW_40 g x u m v o od
  | 41, _ => exact atW_41 g x u m v o od
  | 42, _ => exact atW_42 g x u m v o od
  | 43, _ => exact atW_43 g x u m v o od
  | 44, _ => exact atW_44 g x u m v o od
  | 45, _ => exact atW_45 g x u m v o od
  | 46, _ => exact atW_46 g x u m v o od
  | 47, _ => exact atW_47 g x u m v o od
  | 48, _ => exact atW_48 g x u m v o od
  | 49, _ => exact atW_49 g x u m v o od
  | 50, _ => exact atW_50 g x u m v o od
  | 51, _ => exact atW_51 g x u m v o od
  | 52, _ => exact atW_52 g x u m v o od
  | 53, _ => exact atW_53 g x u m v o od
  | 54, _ => exact atW_54 g x u m v o od
  | 55, _ => exact atW_55 g x u m v o od
  | 56, _ => exact atW_56 g x u m v o od
  | 57, _ => exact atW_57 g x u m v o od
  | 58, _ => exact atW_58 g x u m v o od
  | 59, _ => exact atW_59 g x u m v o od
  | 60, _ => exact atW_60 g x u m v o od
  | 61, _ => exact atW_61 g x u m v o od
  | 62, _ => exact atW_62 g x u m v o od
  | 63, _ => exact atW_63 g x u m v o od
  | 64, _ => exact atW_64 g x u m v o od
  | 65, _ => exact atW_65 g x u m v o od
  | 66, _ => exact atW_66 g x u m v o od
  | 67, _ => exact atW_67 g x u m v o od
  | 68, _ => exact atW_68 g x u m v o od
  | 69, _ => exact atW_69 g x u m v o od
  | 70, _ => exact atW_70 g x u m v o od
  | 71, _ => exact atW_71 g x u m v o od
  | 72, _ => exact atW_72 g x u m v o od
  | 73, _ => exact atW_73 g x u m v o od
  | 74, _ => exact atW_74 g x u m v o od
  | 75, _ => exact atW_75 g x u m v o od
  | 76, _ => exact atW_76 g x u m v o od
  | 77, _ => exact atW_77 g x u m v o od
  | 78, _ => exact atW_78 g x u m v o od
  | 79, _ => exact atW_79 g x u m v o od
  | 80, _ => exact atW_80 g x u m v o od
  | 81, _ => exact atW_81 g x u m v o od
  | 82, _ => exact atW_82 g x u m v o od
  | 83, _ => exact atW_83 g x u m v o od
  | 84, _ => exact atW_84 g x u m v o od
  | 85, _ => exact atW_85 g x u m v o od
  | 86, _ => exact atW_86 g x u m v o od
  | 87, _ => exact atW_87 g x u m v o od
  | 88, _ => exact atW_88 g x u m v o od
  | 89, _ => exact atW_89 g x u m v o od
  | 90, _ => exact atW_90 g x u m v o od
  | 91, _ => exact atW_91 g x u m v o od
  | 92, _ => exact atW_92 g x u m v o od
  | 93, _ => exact atW_93 g x u m v o od
  | 94, _ => exact atW_94 g x u m v o od
  | 95, _ => exact atW_95 g x u m v o od
  | 96, _ => exact atW_96 g x u m v o od
  | 97, _ => exact atW_97 g x u m v o od
  | 98, _ => exact atW_98 g x u m v o od
  | 99, _ => exact atW_99 g x u m v o od
  | 100, _ => exact atW_100 g x u m v o od
  | 101, _ => exact atW_101 g x u m v o od
  | 102, _ => exact atW_102 g x u m v o od
  | 103, _ => exact atW_103 g x u m v o od
  | 104, _ => exact atW_104 g x u m v o od
  | 105, _ => exact atW_105 g x u m v o od
  | 106, _ => exact atW_106 g x u m v o od
  | 107, _ => exact atW_107 g x u m v o od
  | 108, _ => exact atW_108 g x u m v o od
  | 109, _ => exact atW_109 g x u m v o od
  | 110, _ => exact atW_110 g x u m v o od
  | 111, _ => exact atW_111 g x u m v o od
  | 112, _ => exact atW_112 g x u m v o od
  | 113, _ => exact atW_113 g x u m v o od
  | 114, _ => exact atW_114 g x u m v o od
  | 115, _ => exact atW_115 g x u m v o od
  | 116, _ => exact atW_116 g x u m v o od
  | 117, _ => exact atW_117 g x u m v o od
  | 118, _ => exact atW_118 g x u m v o od
  | 119, _ => exact atW_119 g x u m v o od
  | 120, _ => exact atW_120 g x u m v o od
  | 121, _ => exact atW_121 g x u m v o od
  | 122, _ => exact atW_122 g x u m v o od
  | 123, _ => exact atW_123 g x u m v o od
  | n + 124, h => exact absurd h (by omega)
theorem arrV_ext {cA : ClassId} {n : Nat} {f f' : Nat → Option Nat} (h : ∀ i, i < n → f i = f' i) : vp_cell cA (n, .inr (.inr (.inr (.inr f)))) = vp_cell cA (n, .inr (.inr (.inr (.inr f')))) := by
  rw [vp_cell_q, vp_cell_q]
  unfold arrV
  congr 2
  funext j
  show va_rf (f j.1) = va_rf (f' j.1)
  rw [h j.1 j.2]
theorem start_P {g : Geo} {x m o od : Nat} {u v : Nat → Nat} {H : Heap} (hP : va_P g.1 vwCl (w_law g x u m v o od) H) : va_P g.1 vwCl (wld (gof g (adf x u m v o od)) sg0) H := by
  intro k q hq
  rcases Nat.lt_or_ge k 124 with hk | hk
  · rw [wld_get hk] at hq
    cases hq
    obtain ⟨i, e, h1, h2, h3⟩ := atW_all g x u m v o od k hk
    have h4 := hP i _ h2
    rcases h3 with h3 | ⟨f, h3, h5, h6⟩
    · rw [h3] at h4
      exact h4
    · rw [h3] at h4
      show va_at g.1 vwCl (adf x u m v o od k, ent (gof g (adf x u m v o od)) sg0 k) H
      rw [h5]
      exact h4.trans (congrArg some (arrV_ext h6))
  · rw [List.getElem?_eq_none (by rw [wld_len]; exact hk)] at hq
    cases hq
theorem start_G {g : Geo} {x m o od : Nat} {u v : Nat → Nat} {A : Nat → Prop} (hD : va_D A (w_law g x u m v o od)) : Gok (gof g (adf x u m v o od)) := by
  intro i j hi hj h
  obtain ⟨a, e, h1, h2, -⟩ := atW_all g x u m v o od i hi
  obtain ⟨a', e', h1', h2', -⟩ := atW_all g x u m v o od j hj
  have := hD.1 a a' _ _ h2 h2' h
  subst this
  exact va_nd_inj _ permL_nd i j a h1 h1'
theorem start_A {g : Geo} {x m o od : Nat} {u v : Nat → Nat} {A : Nat → Prop} (hD : va_D A (w_law g x u m v o od)) : ∀ k, k < 124 → A (adf x u m v o od k) := by
  intro k hk
  obtain ⟨a, e, h1, h2, -⟩ := atW_all g x u m v o od k hk
  exact hD.2 a _ h2
