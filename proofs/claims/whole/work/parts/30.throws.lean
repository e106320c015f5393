/-! METHODS THAT THROW: what they need of the launch beside, their contracts, calls and ends -/
def STRl : List (String × Nat × String) := [(RX10, 88, "an argument is out of range"), (RX10, 105, "there are 6 sheets"), (RX10, 121, "an argument is out of range, or this is no shape"), (RX10, 126, "there are 8 shapes"), (RX10, 142, "the cell is not free"), (RX10, 177, "what is not valid"), (RX10, 198, "the shape cannot be placed"), (RX10, 261, "there is no such way"), (RX10, 263, "the sheet has more than 9 parts"), (RX10, 265, "there is no such place in the order"), (RX10, 282, "there are no usable cells"), (RX10, 294, "the input has 70 characters"), (RX10, 313, "there is no change that can be undone"), (RX10, 321, "there is no snapshot"), (RX10, 327, "nothing is kept of this level"), (RX10, 338, "there is no such sheet"), (RX10, 341, "there is no such cell"), (RX10, 343, "there is no such shape"), (RX10, 345, "there is no such part"), (RX10, 347, "there is no such remnant"), (RX10, 349, "there is no such turn")]
def XCl : List String := ["java/lang/IllegalArgumentException", "java/lang/IllegalStateException", "java/lang/UnsupportedOperationException", "java/lang/IndexOutOfBoundsException", "java/util/NoSuchElementException", "java/lang/ArithmeticException"]
def NCl : List (String × String) := [("java/lang/IllegalArgumentException", "java/lang/IllegalStateException"), ("java/lang/IllegalArgumentException", "java/lang/UnsupportedOperationException"), ("java/lang/IllegalArgumentException", "java/lang/IndexOutOfBoundsException"), ("java/lang/IllegalArgumentException", "java/util/NoSuchElementException"), ("java/lang/IllegalArgumentException", "java/lang/ArithmeticException"), ("java/lang/IllegalStateException", "java/lang/IllegalArgumentException"), ("java/lang/IllegalStateException", "java/lang/UnsupportedOperationException"), ("java/lang/IllegalStateException", "java/lang/IndexOutOfBoundsException"), ("java/lang/IllegalStateException", "java/util/NoSuchElementException"), ("java/lang/IllegalStateException", "java/lang/ArithmeticException"), ("java/lang/UnsupportedOperationException", "java/lang/IllegalArgumentException"), ("java/lang/UnsupportedOperationException", "java/lang/IllegalStateException"), ("java/lang/UnsupportedOperationException", "java/lang/IndexOutOfBoundsException"), ("java/lang/UnsupportedOperationException", "java/util/NoSuchElementException"), ("java/lang/UnsupportedOperationException", "java/lang/ArithmeticException"), ("java/lang/IndexOutOfBoundsException", "java/lang/IllegalArgumentException"), ("java/lang/IndexOutOfBoundsException", "java/lang/IllegalStateException"), ("java/lang/IndexOutOfBoundsException", "java/lang/UnsupportedOperationException"), ("java/lang/IndexOutOfBoundsException", "java/util/NoSuchElementException"), ("java/lang/IndexOutOfBoundsException", "java/lang/ArithmeticException"), ("java/util/NoSuchElementException", "java/lang/IllegalArgumentException"), ("java/util/NoSuchElementException", "java/lang/IllegalStateException"), ("java/util/NoSuchElementException", "java/lang/UnsupportedOperationException"), ("java/util/NoSuchElementException", "java/lang/IndexOutOfBoundsException"), ("java/util/NoSuchElementException", "java/lang/ArithmeticException"), ("java/lang/ArithmeticException", "java/lang/IllegalArgumentException"), ("java/lang/ArithmeticException", "java/lang/IllegalStateException"), ("java/lang/ArithmeticException", "java/lang/UnsupportedOperationException"), ("java/lang/ArithmeticException", "java/lang/IndexOutOfBoundsException"), ("java/lang/ArithmeticException", "java/util/NoSuchElementException")]
def XN : List String := ["java/lang/RuntimeException", "java/lang/Exception"]
def DCl : List MethodName := [⟨"java/lang/RuntimeException", "<init>", "(Ljava/lang/String;)V"⟩, ⟨"java/lang/Exception", "<init>", "(Ljava/lang/String;)V"⟩, ⟨"java/lang/Throwable", "<init>", "(Ljava/lang/String;)V"⟩]
def TXs (g : Geo) (A : Nat → Prop) (U : State) (H : Heap) : Prop :=
  vx_Zq Bundle.tN "UNASSIGNED_STACK" Bundle.steD A U H ∧ vx_Zq Bundle.tN "SUPPRESSED_SENTINEL" Bundle.listD A U H ∧ (∀ q ∈ STRl, ∃ sa, vk_R q.1 q.2.1 q.2.2 sa U) ∧ (∀ E ∈ XCl, va_Nw (.castable E E) U) ∧ (∀ y ∈ DCl, va_Nw (.declares y) U) ∧ (∀ q ∈ NCl, va_Nc q.1 q.2 U)
theorem TXs.same {g : Geo} {A : Nat → Prop} {u U : State} {H : Heap} (hv : u.vm = U.vm) (h : TXs g A u H) : TXs g A U H :=
  ⟨h.1.moved (hv ▸ Vm.Alike.refl u.vm), h.2.1.moved (hv ▸ Vm.Alike.refl u.vm), fun q hq => (h.2.2.1 q hq).elim fun sa k => ⟨sa, vk_R.same hv.symm k⟩, fun E hE => va_Nw.same rfl hv (h.2.2.2.1 E hE), fun y hy => va_Nw.same rfl hv (h.2.2.2.2.1 y hy), fun q hq => va_Nc.moved (hv ▸ Vm.Alike.refl u.vm) (h.2.2.2.2.2 q hq)⟩
theorem TXs.warm {g : Geo} {A : Nat → Prop} {s U : State} {H : Heap} (hW : s.WarmedH U.vm) (h : TXs g A s H) : TXs g A U H :=
  ⟨h.1.moved hW.alike, h.2.1.moved hW.alike, fun q hq => (h.2.2.1 q hq).elim fun sa k => ⟨sa, vk_R.warm hW k⟩, fun E hE => va_Nw.warmC hW (h.2.2.2.1 E hE), fun y hy => va_Nw.warmD hW (h.2.2.2.2.1 y hy), fun q hq => va_Nc.moved hW.alike (h.2.2.2.2.2 q hq)⟩
theorem TXs.kept {g : Geo} {A : Nat → Prop} {U : State} {H H1 : Heap} (h : TXs g A U H) (hq : ∀ a : Nat, a < H.size → ¬ A a → H1[a]? = H[a]?) : TXs g A U H1 := ⟨h.1.kept hq, h.2.1.kept hq, h.2.2⟩
theorem TXs.narrow {g : Geo} {A B : Nat → Prop} {U : State} {H : Heap} (h : TXs g A U H) (hAB : ∀ q, B q → A q) : TXs g B U H := ⟨h.1.narrow hAB, h.2.1.narrow hAB, h.2.2⟩
def rmT (a b mc ms : Nat) : Room := { frames := a, cells := mc, slots := ms, locals := b }
def preT (g : Geo) (σ : St) (sz : Nat) : State → Prop := fun U => pre g σ sz U ∧ TXs g (GA g sz) U U.heap
theorem preT_blind {g : Geo} {σ : St} {sz : Nat} {As : List Value} : FrameBlind (va_Pc As (preT g σ sz)) := fun a U gg mk q => by
  obtain ⟨q0, q1, q2⟩ := q
  exact ⟨q0, (pre_blind (As := As) a U gg mk ⟨q0, q1⟩).2, q2.same rfl⟩
def CtT (l : Launch) (y : MethodName) (cc : ByteArray) (nL : Nat) (rt : Option FieldType) (a b mc ms : Nat) (g : Geo) (As : List Value) (σ : St) (w : (String × St) ⊕ (Int32 × St)) : Prop := Gok g → l.stackTraces = false → ∀ sz, vx_Met l y (Cond.code y cc nL rt :: W0) (rmT a b mc ms) (va_Pc As (preT g σ sz))
  (va_Qi (fun v (_ : Unit) => ∃ τ, w = .inr (v, τ)) (fun _ t => ∀ q, w = .inr q → va_P g.1 vwCl (wld g q.2) t.heap) (GA g sz)) (vx_X (fun (_ : Unit) => True) (fun E _ t => ∃ τ, w = .inl (E, τ) ∧ va_P g.1 vwCl (wld g τ) t.heap) (GA g sz)) mc ms (GA g sz)
def CtTV (l : Launch) (y : MethodName) (cc : ByteArray) (nL : Nat) (rt : Option FieldType) (a b mc ms : Nat) (g : Geo) (As : List Value) (σ : St) (w : (String × St) ⊕ St) : Prop := Gok g → l.stackTraces = false → ∀ sz, vx_Met l y (Cond.code y cc nL rt :: W0) (rmT a b mc ms) (va_Pc As (preT g σ sz))
  (va_Qv (fun (_ : Unit) => ∃ τ, w = .inr τ) (fun _ t => ∀ q, w = .inr q → va_P g.1 vwCl (wld g q) t.heap) (GA g sz)) (vx_X (fun (_ : Unit) => True) (fun E _ t => ∃ τ, w = .inl (E, τ) ∧ va_P g.1 vwCl (wld g τ) t.heap) (GA g sz)) mc ms (GA g sz)
/-- the words of 'throw new E(text)' in a class -/
def THx (own E text : String) (ik is ic : Nat) : Prop := Cond.classLink own ik E ∈ W0 ∧ Cond.initialized E ∈ W0 ∧ (own, is, text) ∈ STRl ∧ E ∈ XCl ∧ Bundle.fit E = true ∧ (∀ w ∈ (vq_at own ic E "java/lang/RuntimeException" ["java/lang/Exception"]).filter goodWord, w ∈ W0) ∧ (∀ w ∈ (vq_at own ic E "java/lang/RuntimeException" ["java/lang/Exception"]).filter (fun w => !goodWord w), w ∈ Cond.castable E E :: DCl.map Cond.declares) ∧ (∀ w ∈ Cond.classLink own ik E :: Cond.initialized E :: vq_at own ic E "java/lang/RuntimeException" ["java/lang/Exception"], vx_ot w = true)
theorem XN_fit : ∀ n ∈ XN, Bundle.fit n = true := by decide +kernel
theorem wd_kept {g : Geo} {s : State} {τ : St} {H H1 : Heap} {locs : List Loc} (Y : Wd g s τ H locs) (hk : ∀ q : Nat, q < H.size → H1[q]? = H[q]?) : va_P g.1 vwCl (wld g τ) H1 := Y.1.kept fun k q h => hk _ (Y.1 k q h).lt
theorem wd_F {g : Geo} {s t : State} {τ : St} {H : Heap} {locs : List Loc} (Y : Wd g s τ H locs) (hz : H.size ≤ t.heap.size) (hk : ∀ q : Nat, q < H.size → t.heap[q]? = H[q]?) : va_F (GA g s.heap.size) s t := ⟨Nat.le_trans Y.2.1 hz, fun q h1 h2 => (hk q (Nat.lt_of_lt_of_le h1 Y.2.1)).trans (Y.2.2.1 q h1 h2)⟩
section GT
variable {p : Program} {l : Launch} {e : Env} {s : State} {m : MethodId} {args : Array Value} {below : List Frame} {meth : Method} {c : Code} {H : Heap} {locs : List Loc} {Q : State → Prop}
variable {g : Geo} {own : String} {cc : ByteArray} {nL : Nat} {rt : Option FieldType} {σ σ' : St} {pc : Nat} {ls : Array Slot} {rest st0 : List Value} {R : Room} {k0 n0 : Nat}
variable {a b a' b' mc' ms' : Nat} {As : List Value} {idx n ci k : Nat} {y : MethodName} {cc' : ByteArray} {nL' : Nat} {rt' : Option FieldType} {r : Int32}
theorem gvIx (X : Cx g own cc nL rt p s m args meth c) (Y : Wd g s σ H locs) (hM : CtI l y cc' nL' rt' (rmm a' b') g (.ref (g.2.2 k) :: As) σ r σ') (B : CBV own idx y cc' nL' rt' n ci) (hk : kd k = ci) (hls : ls.size = nL) (hn : As.length = n) (hst : st0 = As.reverse ++ .ref (g.2.2 k) :: rest) (hW : (rest.map fun v => v.category).sum ≤ 8) (hR : a' + 1 ≤ R.frames ∧ 8 + (nL' + 11) + b' ≤ R.locals) (hkn : k0 ≤ R.cells ∧ n0 ≤ R.slots) (hdg : decode cc pc = .ok (.invokevirtual idx, 3))
    (kk : ∀ (H1 : Heap) (locs1 : List Loc), Wd g s σ' H1 locs1 → W p l e R s m args below meth c H1 locs1 k0 n0 Q (F0 m (pc + 3) ls (.int r :: rest))) : W p l e R s m args below meth c H locs k0 n0 Q (F0 m pc ls st0) := by
  obtain ⟨hx, hb, hml, hr, hown, hts, hK, hG, hlk⟩ := X
  obtain ⟨hP, hS⟩ := Y
  obtain ⟨⟨b1, b2, b3, b4, b5, b6⟩, b7, b8, T, N, ty0, bC⟩ := id B
  have he : (wld g σ)[k]? = some (g.2.2 k, .inr (ci, (List.range (nf ci)).map (fvc ci g.2.2 σ k))) := by rw [wld_get (kd_lt hk (Nat.lt_trans bC.2.2.1 (by decide))), ent_obj hk bC.2.2.1]
  refine va_calli (A1 := GA g H.size) (A0 := GA g s.heap.size) (H0 := s.heap) (va_runV (As := As) (rest := rest) ⟨hx, hb, hml, hown, hts⟩ (hM hG H.size) (cwV n hts (goodV B) rfl rfl rfl ⟨rfl, b4, b5, b6⟩ hR) ⟨pre_blind, va_recv hK hP bC.1 he, fun U hU hW => ⟨rfl, by rw [hU], by rw [hU]; exact hP, va_K.moved hW.alike hK, hlk.2.warm hW⟩⟩ rfl hn hls hst (lv_room hW) hdg hkn) hS (fun q _ h => ga_up hS.1 q h) (fun q h => ga_up hS.1 q h) (fun r u t H1 locs1 ht hvm hw hB hz hk hS1 => ?_)
  rw [ht] at hB
  subst hw
  exact kk H1 locs1 ⟨hB, hS1⟩
theorem gvVx (X : Cx g own cc nL rt p s m args meth c) (Y : Wd g s σ H locs) (hM : CtV l y cc' nL' rt' (rmm a' b') g (.ref (g.2.2 k) :: As) σ σ') (B : CBV own idx y cc' nL' rt' n ci) (hk : kd k = ci) (hls : ls.size = nL) (hn : As.length = n) (hst : st0 = As.reverse ++ .ref (g.2.2 k) :: rest) (hW : (rest.map fun v => v.category).sum ≤ 8) (hR : a' + 1 ≤ R.frames ∧ 8 + (nL' + 11) + b' ≤ R.locals) (hkn : k0 ≤ R.cells ∧ n0 ≤ R.slots) (hdg : decode cc pc = .ok (.invokevirtual idx, 3))
    (kk : ∀ (H1 : Heap) (locs1 : List Loc), Wd g s σ' H1 locs1 → W p l e R s m args below meth c H1 locs1 k0 n0 Q (F0 m (pc + 3) ls rest)) : W p l e R s m args below meth c H locs k0 n0 Q (F0 m pc ls st0) := by
  obtain ⟨hx, hb, hml, hr, hown, hts, hK, hG, hlk⟩ := X
  obtain ⟨hP, hS⟩ := Y
  obtain ⟨⟨b1, b2, b3, b4, b5, b6⟩, b7, b8, T, N, ty0, bC⟩ := id B
  have he : (wld g σ)[k]? = some (g.2.2 k, .inr (ci, (List.range (nf ci)).map (fvc ci g.2.2 σ k))) := by rw [wld_get (kd_lt hk (Nat.lt_trans bC.2.2.1 (by decide))), ent_obj hk bC.2.2.1]
  refine va_callv (A1 := GA g H.size) (A0 := GA g s.heap.size) (H0 := s.heap) (va_runV (As := As) (rest := rest) ⟨hx, hb, hml, hown, hts⟩ (hM hG H.size) (cwV n hts (goodV B) rfl rfl rfl ⟨rfl, b4, b5, b6⟩ hR) ⟨pre_blind, va_recv hK hP bC.1 he, fun U hU hW => ⟨rfl, by rw [hU], by rw [hU]; exact hP, va_K.moved hW.alike hK, hlk.2.warm hW⟩⟩ rfl hn hls hst (lv_room hW) hdg hkn) hS (fun q _ h => ga_up hS.1 q h) (fun q h => ga_up hS.1 q h) (fun u t H1 locs1 ht hvm hw hB hz hk hS1 => ?_)
  rw [ht] at hB
  exact kk H1 locs1 ⟨hB, hS1⟩
theorem gsIx (X : Cx g own cc nL rt p s m args meth c) (Y : Wd g s σ H locs) (hM : CtI l y cc' nL' rt' (rmm a' b') g As σ r σ') (B : CBS own idx y cc' nL' rt' n) (hls : ls.size = nL) (hn : As.length = n) (hst : st0 = As.reverse ++ rest) (hW : (rest.map fun v => v.category).sum ≤ 8) (hR : a' + 1 ≤ R.frames ∧ 8 + (nL' + 11) + b' ≤ R.locals) (hkn : k0 ≤ R.cells ∧ n0 ≤ R.slots) (hdg : decode cc pc = .ok (.invokestatic idx, 3))
    (kk : ∀ (H1 : Heap) (locs1 : List Loc), Wd g s σ' H1 locs1 → W p l e R s m args below meth c H1 locs1 k0 n0 Q (F0 m (pc + 3) ls (.int r :: rest))) : W p l e R s m args below meth c H locs k0 n0 Q (F0 m pc ls st0) := by
  obtain ⟨hx, hb, hml, hr, hown, hts, hK, hG, hlk⟩ := X
  obtain ⟨hP, hS⟩ := Y
  obtain ⟨⟨b1, b2, b3, b4, b5, b6⟩, b7⟩ := id B
  refine va_calli (A1 := GA g H.size) (A0 := GA g s.heap.size) (H0 := s.heap) (va_runS (As := As) (rest := rest) ⟨hx, hb, hml, hown, hts⟩ (hM hG H.size) (va_cwS n hts (goodS B) rfl rfl rfl ⟨b4, b5, b6⟩ hR) ⟨pre_blind, fun U hU hW => ⟨rfl, by rw [hU], by rw [hU]; exact hP, va_K.moved hW.alike hK, hlk.2.warm hW⟩⟩ rfl hn hls hst (lv_room hW) hdg hkn) hS (fun q _ h => ga_up hS.1 q h) (fun q h => ga_up hS.1 q h) (fun r u t H1 locs1 ht hvm hw hB hz hk hS1 => ?_)
  rw [ht] at hB
  subst hw
  exact kk H1 locs1 ⟨hB, hS1⟩
theorem gsVx (X : Cx g own cc nL rt p s m args meth c) (Y : Wd g s σ H locs) (hM : CtV l y cc' nL' rt' (rmm a' b') g As σ σ') (B : CBS own idx y cc' nL' rt' n) (hls : ls.size = nL) (hn : As.length = n) (hst : st0 = As.reverse ++ rest) (hW : (rest.map fun v => v.category).sum ≤ 8) (hR : a' + 1 ≤ R.frames ∧ 8 + (nL' + 11) + b' ≤ R.locals) (hkn : k0 ≤ R.cells ∧ n0 ≤ R.slots) (hdg : decode cc pc = .ok (.invokestatic idx, 3))
    (kk : ∀ (H1 : Heap) (locs1 : List Loc), Wd g s σ' H1 locs1 → W p l e R s m args below meth c H1 locs1 k0 n0 Q (F0 m (pc + 3) ls rest)) : W p l e R s m args below meth c H locs k0 n0 Q (F0 m pc ls st0) := by
  obtain ⟨hx, hb, hml, hr, hown, hts, hK, hG, hlk⟩ := X
  obtain ⟨hP, hS⟩ := Y
  obtain ⟨⟨b1, b2, b3, b4, b5, b6⟩, b7⟩ := id B
  refine va_callv (A1 := GA g H.size) (A0 := GA g s.heap.size) (H0 := s.heap) (va_runS (As := As) (rest := rest) ⟨hx, hb, hml, hown, hts⟩ (hM hG H.size) (va_cwS n hts (goodS B) rfl rfl rfl ⟨b4, b5, b6⟩ hR) ⟨pre_blind, fun U hU hW => ⟨rfl, by rw [hU], by rw [hU]; exact hP, va_K.moved hW.alike hK, hlk.2.warm hW⟩⟩ rfl hn hls hst (lv_room hW) hdg hkn) hS (fun q _ h => ga_up hS.1 q h) (fun q h => ga_up hS.1 q h) (fun u t H1 locs1 ht hvm hw hB hz hk hS1 => ?_)
  rw [ht] at hB
  exact kk H1 locs1 ⟨hB, hS1⟩
theorem gvT {w : (String × St) ⊕ (Int32 × St)} (X : Cx g own cc nL rt p s m args meth c) (TX : TXs g (GA g s.heap.size) s s.heap) (hst : l.stackTraces = false) (Y : Wd g s σ H locs) (hM : CtT l y cc' nL' rt' a' b' mc' ms' g (.ref (g.2.2 k) :: As) σ w) (B : CBV own idx y cc' nL' rt' n ci) (hk : kd k = ci) (hls : ls.size = nL) (hn : As.length = n) (hst0 : st0 = As.reverse ++ .ref (g.2.2 k) :: rest) (hW : (rest.map fun v => v.category).sum ≤ 8) (hR : a' + 1 ≤ R.frames ∧ 8 + (nL' + 11) + b' ≤ R.locals) (hkn : k0 + mc' ≤ R.cells ∧ n0 + ms' ≤ R.slots) (hdg : decode cc pc = .ok (.invokevirtual idx, 3))
    (kx : ∀ (E : String) (τ : St) (ce : Cell) (q9 : Addr) (H1 : Heap) (locs1 : List Loc), w = .inl (E, τ) → Wd g s τ H1 locs1 → H1[q9]? = some ce → ce.vm = .none → s.vm.findClass E = some ce.cls → vx_W p l e R s m args below meth c H1 locs1 (k0 + mc') (n0 + ms') Q (F0 m pc ls rest) q9)
    (kk : ∀ (v : Int32) (τ : St) (H1 : Heap) (locs1 : List Loc), w = .inr (v, τ) → Wd g s τ H1 locs1 → W p l e R s m args below meth c H1 locs1 (k0 + mc') (n0 + ms') Q (F0 m (pc + 3) ls (.int v :: rest))) : W p l e R s m args below meth c H locs k0 n0 Q (F0 m pc ls st0) := by
  obtain ⟨hx, hb, hml, hr, hown, hts, hK, hG, hlk⟩ := X
  obtain ⟨hP, hS⟩ := Y
  obtain ⟨⟨b1, b2, b3, b4, b5, b6⟩, b7, b8, T, N, ty0, bC⟩ := id B
  have he : (wld g σ)[k]? = some (g.2.2 k, .inr (ci, (List.range (nf ci)).map (fvc ci g.2.2 σ k))) := by rw [wld_get (kd_lt hk (Nat.lt_trans bC.2.2.1 (by decide))), ent_obj hk bC.2.2.1]
  have hT : TXs g (GA g H.size) s H := (TX.kept hS.2.1).narrow (ga_up hS.1)
  refine vx_calli (A1 := GA g H.size) (A0 := GA g s.heap.size) (AX := GA g H.size) (H0 := s.heap) (vx_runV (As := As) (rest := rest) ⟨hx, hb, hml, hown, hts⟩ (hM hG hst H.size) (cwV n hts (goodV B) rfl rfl rfl ⟨rfl, b4, b5, b6⟩ hR) ⟨preT_blind, va_recv hK hP bC.1 he, fun U hU hW => ⟨rfl, ⟨by rw [hU], by rw [hU]; exact hP, va_K.moved hW.alike hK, hlk.2.warm hW⟩, by rw [hU]; exact hT.warm hW⟩⟩ rfl hn hls hst0 (lv_room hW) hdg hkn) hS (fun q _ h => ga_up hS.1 q h) (fun q h => ga_up hS.1 q h) (fun q _ h => ga_up hS.1 q h) (fun E ce q9 u t H1 locs1 ht hvm _ hB hz hk1 hS1 h1 h2 h3 => ?_) (fun v u t H1 locs1 ht hvm hw hB hz hk1 hS1 => ?_)
  · obtain ⟨τ, hw, hB⟩ := hB
    rw [ht] at hB
    exact kx E τ ce q9 H1 locs1 hw ⟨hB, hS1⟩ h1 h2 h3
  · obtain ⟨τ, hw⟩ := hw
    have hB := hB _ hw
    rw [ht] at hB
    exact kk v τ H1 locs1 hw ⟨hB, hS1⟩
theorem gvTV {w : (String × St) ⊕ St} (X : Cx g own cc nL rt p s m args meth c) (TX : TXs g (GA g s.heap.size) s s.heap) (hst : l.stackTraces = false) (Y : Wd g s σ H locs) (hM : CtTV l y cc' nL' rt' a' b' mc' ms' g (.ref (g.2.2 k) :: As) σ w) (B : CBV own idx y cc' nL' rt' n ci) (hk : kd k = ci) (hls : ls.size = nL) (hn : As.length = n) (hst0 : st0 = As.reverse ++ .ref (g.2.2 k) :: rest) (hW : (rest.map fun v => v.category).sum ≤ 8) (hR : a' + 1 ≤ R.frames ∧ 8 + (nL' + 11) + b' ≤ R.locals) (hkn : k0 + mc' ≤ R.cells ∧ n0 + ms' ≤ R.slots) (hdg : decode cc pc = .ok (.invokevirtual idx, 3))
    (kx : ∀ (E : String) (τ : St) (ce : Cell) (q9 : Addr) (H1 : Heap) (locs1 : List Loc), w = .inl (E, τ) → Wd g s τ H1 locs1 → H1[q9]? = some ce → ce.vm = .none → s.vm.findClass E = some ce.cls → vx_W p l e R s m args below meth c H1 locs1 (k0 + mc') (n0 + ms') Q (F0 m pc ls rest) q9)
    (kk : ∀ (τ : St) (H1 : Heap) (locs1 : List Loc), w = .inr τ → Wd g s τ H1 locs1 → W p l e R s m args below meth c H1 locs1 (k0 + mc') (n0 + ms') Q (F0 m (pc + 3) ls rest)) : W p l e R s m args below meth c H locs k0 n0 Q (F0 m pc ls st0) := by
  obtain ⟨hx, hb, hml, hr, hown, hts, hK, hG, hlk⟩ := X
  obtain ⟨hP, hS⟩ := Y
  obtain ⟨⟨b1, b2, b3, b4, b5, b6⟩, b7, b8, T, N, ty0, bC⟩ := id B
  have he : (wld g σ)[k]? = some (g.2.2 k, .inr (ci, (List.range (nf ci)).map (fvc ci g.2.2 σ k))) := by rw [wld_get (kd_lt hk (Nat.lt_trans bC.2.2.1 (by decide))), ent_obj hk bC.2.2.1]
  have hT : TXs g (GA g H.size) s H := (TX.kept hS.2.1).narrow (ga_up hS.1)
  refine vx_callv (A1 := GA g H.size) (A0 := GA g s.heap.size) (AX := GA g H.size) (H0 := s.heap) (vx_runV (As := As) (rest := rest) ⟨hx, hb, hml, hown, hts⟩ (hM hG hst H.size) (cwV n hts (goodV B) rfl rfl rfl ⟨rfl, b4, b5, b6⟩ hR) ⟨preT_blind, va_recv hK hP bC.1 he, fun U hU hW => ⟨rfl, ⟨by rw [hU], by rw [hU]; exact hP, va_K.moved hW.alike hK, hlk.2.warm hW⟩, by rw [hU]; exact hT.warm hW⟩⟩ rfl hn hls hst0 (lv_room hW) hdg hkn) hS (fun q _ h => ga_up hS.1 q h) (fun q h => ga_up hS.1 q h) (fun q _ h => ga_up hS.1 q h) (fun E ce q9 u t H1 locs1 ht hvm _ hB hz hk1 hS1 h1 h2 h3 => ?_) (fun u t H1 locs1 ht hvm hw hB hz hk1 hS1 => ?_)
  · obtain ⟨τ, hw, hB⟩ := hB
    rw [ht] at hB
    exact kx E τ ce q9 H1 locs1 hw ⟨hB, hS1⟩ h1 h2 h3
  · obtain ⟨τ, hw⟩ := hw
    have hB := hB _ hw
    rw [ht] at hB
    exact kk τ H1 locs1 hw ⟨hB, hS1⟩
theorem gsT {w : (String × St) ⊕ (Int32 × St)} (X : Cx g own cc nL rt p s m args meth c) (TX : TXs g (GA g s.heap.size) s s.heap) (hst : l.stackTraces = false) (Y : Wd g s σ H locs) (hM : CtT l y cc' nL' rt' a' b' mc' ms' g (As) σ w) (B : CBS own idx y cc' nL' rt' n) (hls : ls.size = nL) (hn : As.length = n) (hst0 : st0 = As.reverse ++ rest) (hW : (rest.map fun v => v.category).sum ≤ 8) (hR : a' + 1 ≤ R.frames ∧ 8 + (nL' + 11) + b' ≤ R.locals) (hkn : k0 + mc' ≤ R.cells ∧ n0 + ms' ≤ R.slots) (hdg : decode cc pc = .ok (.invokestatic idx, 3))
    (kx : ∀ (E : String) (τ : St) (ce : Cell) (q9 : Addr) (H1 : Heap) (locs1 : List Loc), w = .inl (E, τ) → Wd g s τ H1 locs1 → H1[q9]? = some ce → ce.vm = .none → s.vm.findClass E = some ce.cls → vx_W p l e R s m args below meth c H1 locs1 (k0 + mc') (n0 + ms') Q (F0 m pc ls rest) q9)
    (kk : ∀ (v : Int32) (τ : St) (H1 : Heap) (locs1 : List Loc), w = .inr (v, τ) → Wd g s τ H1 locs1 → W p l e R s m args below meth c H1 locs1 (k0 + mc') (n0 + ms') Q (F0 m (pc + 3) ls (.int v :: rest))) : W p l e R s m args below meth c H locs k0 n0 Q (F0 m pc ls st0) := by
  obtain ⟨hx, hb, hml, hr, hown, hts, hK, hG, hlk⟩ := X
  obtain ⟨hP, hS⟩ := Y
  obtain ⟨⟨b1, b2, b3, b4, b5, b6⟩, b7⟩ := id B
  have hT : TXs g (GA g H.size) s H := (TX.kept hS.2.1).narrow (ga_up hS.1)
  refine vx_calli (A1 := GA g H.size) (A0 := GA g s.heap.size) (AX := GA g H.size) (H0 := s.heap) (vx_runS (As := As) (rest := rest) ⟨hx, hb, hml, hown, hts⟩ (hM hG hst H.size) (va_cwS n hts (goodS B) rfl rfl rfl ⟨b4, b5, b6⟩ hR) ⟨preT_blind, fun U hU hW => ⟨rfl, ⟨by rw [hU], by rw [hU]; exact hP, va_K.moved hW.alike hK, hlk.2.warm hW⟩, by rw [hU]; exact hT.warm hW⟩⟩ rfl hn hls hst0 (lv_room hW) hdg hkn) hS (fun q _ h => ga_up hS.1 q h) (fun q h => ga_up hS.1 q h) (fun q _ h => ga_up hS.1 q h) (fun E ce q9 u t H1 locs1 ht hvm _ hB hz hk1 hS1 h1 h2 h3 => ?_) (fun v u t H1 locs1 ht hvm hw hB hz hk1 hS1 => ?_)
  · obtain ⟨τ, hw, hB⟩ := hB
    rw [ht] at hB
    exact kx E τ ce q9 H1 locs1 hw ⟨hB, hS1⟩ h1 h2 h3
  · obtain ⟨τ, hw⟩ := hw
    have hB := hB _ hw
    rw [ht] at hB
    exact kk v τ H1 locs1 hw ⟨hB, hS1⟩
theorem gsTV {w : (String × St) ⊕ St} (X : Cx g own cc nL rt p s m args meth c) (TX : TXs g (GA g s.heap.size) s s.heap) (hst : l.stackTraces = false) (Y : Wd g s σ H locs) (hM : CtTV l y cc' nL' rt' a' b' mc' ms' g (As) σ w) (B : CBS own idx y cc' nL' rt' n) (hls : ls.size = nL) (hn : As.length = n) (hst0 : st0 = As.reverse ++ rest) (hW : (rest.map fun v => v.category).sum ≤ 8) (hR : a' + 1 ≤ R.frames ∧ 8 + (nL' + 11) + b' ≤ R.locals) (hkn : k0 + mc' ≤ R.cells ∧ n0 + ms' ≤ R.slots) (hdg : decode cc pc = .ok (.invokestatic idx, 3))
    (kx : ∀ (E : String) (τ : St) (ce : Cell) (q9 : Addr) (H1 : Heap) (locs1 : List Loc), w = .inl (E, τ) → Wd g s τ H1 locs1 → H1[q9]? = some ce → ce.vm = .none → s.vm.findClass E = some ce.cls → vx_W p l e R s m args below meth c H1 locs1 (k0 + mc') (n0 + ms') Q (F0 m pc ls rest) q9)
    (kk : ∀ (τ : St) (H1 : Heap) (locs1 : List Loc), w = .inr τ → Wd g s τ H1 locs1 → W p l e R s m args below meth c H1 locs1 (k0 + mc') (n0 + ms') Q (F0 m (pc + 3) ls rest)) : W p l e R s m args below meth c H locs k0 n0 Q (F0 m pc ls st0) := by
  obtain ⟨hx, hb, hml, hr, hown, hts, hK, hG, hlk⟩ := X
  obtain ⟨hP, hS⟩ := Y
  obtain ⟨⟨b1, b2, b3, b4, b5, b6⟩, b7⟩ := id B
  have hT : TXs g (GA g H.size) s H := (TX.kept hS.2.1).narrow (ga_up hS.1)
  refine vx_callv (A1 := GA g H.size) (A0 := GA g s.heap.size) (AX := GA g H.size) (H0 := s.heap) (vx_runS (As := As) (rest := rest) ⟨hx, hb, hml, hown, hts⟩ (hM hG hst H.size) (va_cwS n hts (goodS B) rfl rfl rfl ⟨b4, b5, b6⟩ hR) ⟨preT_blind, fun U hU hW => ⟨rfl, ⟨by rw [hU], by rw [hU]; exact hP, va_K.moved hW.alike hK, hlk.2.warm hW⟩, by rw [hU]; exact hT.warm hW⟩⟩ rfl hn hls hst0 (lv_room hW) hdg hkn) hS (fun q _ h => ga_up hS.1 q h) (fun q h => ga_up hS.1 q h) (fun q _ h => ga_up hS.1 q h) (fun E ce q9 u t H1 locs1 ht hvm _ hB hz hk1 hS1 h1 h2 h3 => ?_) (fun u t H1 locs1 ht hvm hw hB hz hk1 hS1 => ?_)
  · obtain ⟨τ, hw, hB⟩ := hB
    rw [ht] at hB
    exact kx E τ ce q9 H1 locs1 hw ⟨hB, hS1⟩ h1 h2 h3
  · obtain ⟨τ, hw⟩ := hw
    have hB := hB _ hw
    rw [ht] at hB
    exact kk τ H1 locs1 hw ⟨hB, hS1⟩
end GT
section GTE
variable {l : Launch} {g : Geo} {cc : ByteArray} {nL : Nat} {rt : Option FieldType} {σ : St} {a b mc ms : Nat} {As : List Value} {y : MethodName}
theorem enT {w : (String × St) ⊕ (Int32 × St)} (ty : FieldType) (hy : plainName y.cls = true) (hrt : rt = some ty) (hnr : ∀ v τ, w = .inr (v, τ) → narrow ty (.int v) = .int v) (hl : (lg_sl As).length ≤ nL) (hab : 5 < a ∧ 8 + (13 * (XN.length + 1) + 43) ≤ b)
    (body : ∀ (p : Program) (e : Env) (s : State) (m : MethodId) (args : Array Value) (below : List Frame) (meth : Method) (c : Code) (Q : State → Prop), Cx g y.cls cc nL rt p s m args meth c → TXs g (GA g s.heap.size) s s.heap → l.stackTraces = false → Wd g s σ s.heap [] → ∀ ls, lv_has ls nL (lv_args 0 As) →
      (∀ (v : Int32) (τ : St) (H : Heap) (locs : List Loc) (ls : Array Slot) (pc k n : Nat), w = .inr (v, τ) → k ≤ mc → n ≤ ms → Wd g s τ H locs → decode cc pc = .ok (.ireturn, 1) → W p l e (rmT a b mc ms) s m args below meth c H locs k n Q (F0 m pc ls [.int v])) →
      (∀ (E text : String) (ik is ic : Nat) (τ : St) (H : Heap) (locs : List Loc) (ls : Array Slot) (pc : Nat) (rest : List Value) (k n : Nat), THx y.cls E text ik is ic → w = .inl (E, τ) → Wd g s τ H locs → ls.size = nL → (rest.map fun v => v.category).sum ≤ 8 → (decode cc pc = .ok (.new ik, 3) ∧ decode cc (pc + 3) = .ok (.dup, 1) ∧ ((decode cc (pc + 4) = .ok (.ldc is, 2) ∧ decode cc (pc + 6) = .ok (.invokespecial ic, 3) ∧ decode cc (pc + 9) = .ok (.athrow, 1)) ∨ (decode cc (pc + 4) = .ok (.ldc_w is, 3) ∧ decode cc (pc + 7) = .ok (.invokespecial ic, 3) ∧ decode cc (pc + 10) = .ok (.athrow, 1)))) → k + 1 ≤ mc → n + 6 ≤ ms → W p l e (rmT a b mc ms) s m args below meth c H locs k n Q (F0 m pc ls rest)) →
      (∀ (E : String) (τ : St) (ce : Cell) (q9 : Addr) (H : Heap) (locs : List Loc) (ls : Array Slot) (pc : Nat) (rest : List Value) (k n : Nat), w = .inl (E, τ) → Wd g s τ H locs → H[q9]? = some ce → ce.vm = .none → s.vm.findClass E = some ce.cls → k ≤ mc → n ≤ ms → vx_W p l e (rmT a b mc ms) s m args below meth c H locs k n Q (F0 m pc ls rest) q9) →
      W p l e (rmT a b mc ms) s m args below meth c s.heap [] 0 0 Q (F0 m 0 ls [])) : CtT l y cc nL rt a b mc ms g As σ w := by
  intro hG hst sz
  refine vx_ofW (cc := cc) (maxL := nL) (ret := rt) hy rfl ?_
  intro p e s m args below meth c s₁ B hml htab hv
  obtain ⟨rfl, ⟨hsz, hP, hK, hN⟩, hT⟩ := hv
  have hx := B.exec
  have hb := B.bytes
  have hr := B.returns
  have hts := atoms_spec (ws := Cond.code y cc nL rt :: W0) B.pre
  have hown : s.vm.findClass y.cls = some m.cls := findClass_of_methodNamed B.named
  have hlocks := B.notSynchronized
  subst hsz
  have hl := lv_entry As (n := nL) hl
  rw [lg_entry_eq]
  generalize (lg_sl As ++ List.replicate (nL - (lg_sl As).length) Slot.unset).toArray = ls at hl ⊢
  have hW0 : ∀ w ∈ W0, w.before As.toArray s = true := fun w h => hts w (List.mem_cons_of_mem _ h)
  refine body p e s m As.toArray below meth c _ ⟨hx, hb, hml, hr, hown, hW0, hK, hG, hlocks, hN⟩ hT hst ⟨hP, va_S.rf⟩ ls hl ?_ ?_ ?_
  · intro v τ H locs ls pc k n hw hk hn hY hd
    refine vx_ret (W.widen hk hn ?_)
    exact W.zret (ty := ty) (v := v) hx hb (hr.trans hrt) (hnr v τ hw) (fun t ht hW => ⟨⟨v, (), rfl, ⟨τ, hw⟩, fun q hq => by rw [hw] at hq; cases hq; show va_P g.1 vwCl (wld g τ) t.heap; rw [ht]; exact hY.1⟩, hY.2.F ht⟩) hY.2.2.2 hd hlocks
  · intro E text ik is ic τ H locs ls pc rest k n hTH hw hY hsize hrest hd hk hn
    obtain ⟨t1, t2, t3, t4, t5, t6, t7, t8⟩ := hTH
    obtain ⟨sa, hsa⟩ := hT.2.2.1 _ t3
    have hat : ∀ w ∈ vq_at y.cls ic E "java/lang/RuntimeException" ["java/lang/Exception"], w.before As.toArray s = true := vx_hat (B := Cond.castable E E :: DCl.map Cond.declares) (fun w h => hW0 w (t6 w h)) t7 (vx_c (va_Nw.use rfl (hT.2.2.2.1 E t4)) (fun w hw => by obtain ⟨y, hy, rfl⟩ := List.mem_map.mp hw; exact va_Nw.use rfl (hT.2.2.2.2.1 y hy)))
    have hxx : ∀ t : State, s.vm.Alike t.vm → H.size ≤ t.heap.size → (∀ q : Nat, q < H.size → t.heap[q]? = H[q]?) → vx_X (fun (_ : Unit) => True) (fun E _ t => ∃ τ, w = .inl (E, τ) ∧ va_P g.1 vwCl (wld g τ) t.heap) (GA g s.heap.size) E s t := fun t hvm hz hk => ⟨(), trivial, ⟨τ, hw, wd_kept hY hk⟩, wd_F hY hz hk⟩
    rcases hd with ⟨d1, d2, ⟨d3, d4, d5⟩ | ⟨d3, d4, d5⟩⟩
    · exact vq_throwS (sa := sa) hx hb hst hown t5 XN_fit (hW0 _ t1) (hW0 _ t2) hsa hat t8 hT.1 hT.2.1 hY.2 (hsize.trans hml.symm) d1 d2 d3 d4 d5 (fun x hx => (htab x hx).elim) (show XN.length + 3 < a from hab.1) (Nat.le_trans (Nat.add_le_add_right hrest _) hab.2) (Nat.le_trans hk (Nat.le_refl _)) hn hlocks hxx hY.2.2.2 hk hn
    · exact vq_throwSW (sa := sa) hx hb hst hown t5 XN_fit (hW0 _ t1) (hW0 _ t2) hsa hat t8 hT.1 hT.2.1 hY.2 (hsize.trans hml.symm) d1 d2 d3 d4 d5 (fun x hx => (htab x hx).elim) (show XN.length + 3 < a from hab.1) (Nat.le_trans (Nat.add_le_add_right hrest _) hab.2) (Nat.le_trans hk (Nat.le_refl _)) hn hlocks hxx hY.2.2.2 hk hn
  · intro E τ ce q9 H locs ls pc rest k n hw hY h1 h2 h3 hk hn
    exact vx_out (fun x hx => (htab x hx).elim) hlocks h1 h2 h3 (fun t ht hvm => ⟨(), trivial, ⟨τ, hw, by rw [ht]; exact hY.1⟩, hY.2.F ht⟩) hY.2.2.2 hk hn
theorem enTV {w : (String × St) ⊕ St} (hy : plainName y.cls = true) (hrt : rt = none) (hl : (lg_sl As).length ≤ nL) (hab : 5 < a ∧ 8 + (13 * (XN.length + 1) + 43) ≤ b)
    (body : ∀ (p : Program) (e : Env) (s : State) (m : MethodId) (args : Array Value) (below : List Frame) (meth : Method) (c : Code) (Q : State → Prop), Cx g y.cls cc nL rt p s m args meth c → TXs g (GA g s.heap.size) s s.heap → l.stackTraces = false → Wd g s σ s.heap [] → ∀ ls, lv_has ls nL (lv_args 0 As) →
      (∀ (τ : St) (H : Heap) (locs : List Loc) (ls : Array Slot) (pc k n : Nat), w = .inr τ → k ≤ mc → n ≤ ms → Wd g s τ H locs → decode cc pc = .ok (.return_, 1) → W p l e (rmT a b mc ms) s m args below meth c H locs k n Q (F0 m pc ls [])) →
      (∀ (E text : String) (ik is ic : Nat) (τ : St) (H : Heap) (locs : List Loc) (ls : Array Slot) (pc : Nat) (rest : List Value) (k n : Nat), THx y.cls E text ik is ic → w = .inl (E, τ) → Wd g s τ H locs → ls.size = nL → (rest.map fun v => v.category).sum ≤ 8 → (decode cc pc = .ok (.new ik, 3) ∧ decode cc (pc + 3) = .ok (.dup, 1) ∧ ((decode cc (pc + 4) = .ok (.ldc is, 2) ∧ decode cc (pc + 6) = .ok (.invokespecial ic, 3) ∧ decode cc (pc + 9) = .ok (.athrow, 1)) ∨ (decode cc (pc + 4) = .ok (.ldc_w is, 3) ∧ decode cc (pc + 7) = .ok (.invokespecial ic, 3) ∧ decode cc (pc + 10) = .ok (.athrow, 1)))) → k + 1 ≤ mc → n + 6 ≤ ms → W p l e (rmT a b mc ms) s m args below meth c H locs k n Q (F0 m pc ls rest)) →
      (∀ (E : String) (τ : St) (ce : Cell) (q9 : Addr) (H : Heap) (locs : List Loc) (ls : Array Slot) (pc : Nat) (rest : List Value) (k n : Nat), w = .inl (E, τ) → Wd g s τ H locs → H[q9]? = some ce → ce.vm = .none → s.vm.findClass E = some ce.cls → k ≤ mc → n ≤ ms → vx_W p l e (rmT a b mc ms) s m args below meth c H locs k n Q (F0 m pc ls rest) q9) →
      W p l e (rmT a b mc ms) s m args below meth c s.heap [] 0 0 Q (F0 m 0 ls [])) : CtTV l y cc nL rt a b mc ms g As σ w := by
  intro hG hst sz
  refine vx_ofW (cc := cc) (maxL := nL) (ret := rt) hy rfl ?_
  intro p e s m args below meth c s₁ B hml htab hv
  obtain ⟨rfl, ⟨hsz, hP, hK, hN⟩, hT⟩ := hv
  have hx := B.exec
  have hb := B.bytes
  have hr := B.returns
  have hts := atoms_spec (ws := Cond.code y cc nL rt :: W0) B.pre
  have hown : s.vm.findClass y.cls = some m.cls := findClass_of_methodNamed B.named
  have hlocks := B.notSynchronized
  subst hsz
  have hl := lv_entry As (n := nL) hl
  rw [lg_entry_eq]
  generalize (lg_sl As ++ List.replicate (nL - (lg_sl As).length) Slot.unset).toArray = ls at hl ⊢
  have hW0 : ∀ w ∈ W0, w.before As.toArray s = true := fun w h => hts w (List.mem_cons_of_mem _ h)
  refine body p e s m As.toArray below meth c _ ⟨hx, hb, hml, hr, hown, hW0, hK, hG, hlocks, hN⟩ hT hst ⟨hP, va_S.rf⟩ ls hl ?_ ?_ ?_
  · intro τ H locs ls pc k n hw hk hn hY hd
    refine vx_ret (W.widen hk hn ?_)
    exact W.vret hx hb (hr.trans hrt) (fun t ht hW => ⟨⟨(), rfl, ⟨τ, hw⟩, fun q hq => by rw [hw] at hq; cases hq; show va_P g.1 vwCl (wld g τ) t.heap; rw [ht]; exact hY.1⟩, hY.2.F ht⟩) hY.2.2.2 hd hlocks
  · intro E text ik is ic τ H locs ls pc rest k n hTH hw hY hsize hrest hd hk hn
    obtain ⟨t1, t2, t3, t4, t5, t6, t7, t8⟩ := hTH
    obtain ⟨sa, hsa⟩ := hT.2.2.1 _ t3
    have hat : ∀ w ∈ vq_at y.cls ic E "java/lang/RuntimeException" ["java/lang/Exception"], w.before As.toArray s = true := vx_hat (B := Cond.castable E E :: DCl.map Cond.declares) (fun w h => hW0 w (t6 w h)) t7 (vx_c (va_Nw.use rfl (hT.2.2.2.1 E t4)) (fun w hw => by obtain ⟨y, hy, rfl⟩ := List.mem_map.mp hw; exact va_Nw.use rfl (hT.2.2.2.2.1 y hy)))
    have hxx : ∀ t : State, s.vm.Alike t.vm → H.size ≤ t.heap.size → (∀ q : Nat, q < H.size → t.heap[q]? = H[q]?) → vx_X (fun (_ : Unit) => True) (fun E _ t => ∃ τ, w = .inl (E, τ) ∧ va_P g.1 vwCl (wld g τ) t.heap) (GA g s.heap.size) E s t := fun t hvm hz hk => ⟨(), trivial, ⟨τ, hw, wd_kept hY hk⟩, wd_F hY hz hk⟩
    rcases hd with ⟨d1, d2, ⟨d3, d4, d5⟩ | ⟨d3, d4, d5⟩⟩
    · exact vq_throwS (sa := sa) hx hb hst hown t5 XN_fit (hW0 _ t1) (hW0 _ t2) hsa hat t8 hT.1 hT.2.1 hY.2 (hsize.trans hml.symm) d1 d2 d3 d4 d5 (fun x hx => (htab x hx).elim) (show XN.length + 3 < a from hab.1) (Nat.le_trans (Nat.add_le_add_right hrest _) hab.2) (Nat.le_trans hk (Nat.le_refl _)) hn hlocks hxx hY.2.2.2 hk hn
    · exact vq_throwSW (sa := sa) hx hb hst hown t5 XN_fit (hW0 _ t1) (hW0 _ t2) hsa hat t8 hT.1 hT.2.1 hY.2 (hsize.trans hml.symm) d1 d2 d3 d4 d5 (fun x hx => (htab x hx).elim) (show XN.length + 3 < a from hab.1) (Nat.le_trans (Nat.add_le_add_right hrest _) hab.2) (Nat.le_trans hk (Nat.le_refl _)) hn hlocks hxx hY.2.2.2 hk hn
  · intro E τ ce q9 H locs ls pc rest k n hw hY h1 h2 h3 hk hn
    exact vx_out (fun x hx => (htab x hx).elim) hlocks h1 h2 h3 (fun t ht hvm => ⟨(), trivial, ⟨τ, hw, by rw [ht]; exact hY.1⟩, hY.2.F ht⟩) hY.2.2.2 hk hn
end GTE
