/-! CONTRACTS over the one world: from the state σ a method with the arguments As answers r and leaves σ' -/
set_option maxRecDepth 100000 in
theorem W0_good : W0.all goodWord = true := by decide +kernel
def rmm (a b : Nat) : Room := { frames := a, cells := 0, slots := 0, locals := b }
def pre (g : Geo) (σ : St) (sz : Nat) : State → Prop := fun U => U.heap.size = sz ∧ va_P g.1 vwCl (wld g σ) U.heap ∧ va_K g.1 vwCl (tys g) U ∧ NWs U
def CtI (l : Launch) (y : MethodName) (cc : ByteArray) (nL : Nat) (rt : Option FieldType) (rm : Room) (g : Geo) (As : List Value) (σ : St) (r : Int32) (σ' : St) : Prop := Gok g → ∀ sz, Met l y (Cond.code y cc nL rt :: W0) rm (va_Pc As (pre g σ sz)) (va_Qi (fun v (_ : Unit) => v = r) (fun _ t => va_P g.1 vwCl (wld g σ') t.heap) (GA g sz)) 0 0 (GA g sz)
def CtV (l : Launch) (y : MethodName) (cc : ByteArray) (nL : Nat) (rt : Option FieldType) (rm : Room) (g : Geo) (As : List Value) (σ : St) (σ' : St) : Prop := Gok g → ∀ sz, Met l y (Cond.code y cc nL rt :: W0) rm (va_Pc As (pre g σ sz)) (va_Qv (fun (_ : Unit) => True) (fun _ t => va_P g.1 vwCl (wld g σ') t.heap) (GA g sz)) 0 0 (GA g sz)
/-- a call's words: by its place in the pool of its class -/
def CBB (own : String) (idx : Nat) (y : MethodName) (cc : ByteArray) (nL : Nat) (rt : Option FieldType) (n : Nat) : Prop :=
  Cond.methodLink own idx y ∈ W0 ∧ Cond.initialized y.cls ∈ W0 ∧ Cond.code y cc nL rt ∈ W0 ∧ y.cls ≠ "java/lang/invoke/MethodHandle" ∧ y.cls ≠ "java/lang/invoke/VarHandle" ∧ (parseMethodDescriptor y.desc).map (fun d => d.parameters.length) = some n
def CBV (own : String) (idx : Nat) (y : MethodName) (cc : ByteArray) (nL : Nat) (rt : Option FieldType) (n ci : Nat) : Prop :=
  CBB own idx y cc nL rt n ∧ Cond.instanceMethod y ∈ W0 ∧ Cond.selects y.cls y y ∈ W0 ∧ ∃ T N ty0, CL ci y.cls T N ty0
def CBS (own : String) (idx : Nat) (y : MethodName) (cc : ByteArray) (nL : Nat) (rt : Option FieldType) (n : Nat) : Prop :=
  CBB own idx y cc nL rt n ∧ Cond.static y ∈ W0
def CBN (own : String) (idx : Nat) (y : MethodName) (cc : ByteArray) (nL : Nat) (rt : Option FieldType) (n : Nat) : Prop :=
  (own, idx, y) ∈ NMl ∧ Cond.initialized y.cls ∈ W0 ∧ Cond.code y cc nL rt ∈ W0 ∧ y.cls ≠ "java/lang/invoke/MethodHandle" ∧ y.cls ≠ "java/lang/invoke/VarHandle" ∧ (parseMethodDescriptor y.desc).map (fun d => d.parameters.length) = some n ∧ Cond.static y ∈ W0
theorem pre_blind {g : Geo} {σ : St} {sz : Nat} {As : List Value} : FrameBlind (va_Pc As (pre g σ sz)) := fun a U gg mk q => by
  obtain ⟨q0, q1, qP, qK, qN⟩ := q
  exact ⟨q0, q1, qP, va_K.moved (u := U) (U := U.calling gg mk a) (Vm.Alike.refl U.vm) qK, qN.same rfl⟩
theorem ga_up {g : Geo} {a b : Nat} (h : a ≤ b) : ∀ q, GA g b q → GA g a q := fun q hq => hq.elim Or.inl (fun x => Or.inr (Nat.le_trans h x))
theorem good_cons {y : MethodName} {cc : ByteArray} {nL : Nat} {rt : Option FieldType} (h : Cond.code y cc nL rt ∈ W0) : GoodIn W0 (Cond.code y cc nL rt :: W0) := fun w hw =>
  have hm : w ∈ W0 := (List.mem_cons.mp hw).elim (fun e => e ▸ h) id
  ⟨hm, good_of_word (List.all_eq_true.mp W0_good w hm)⟩
theorem good_mem {w : Cond} (hm : w ∈ W0) : w ∈ W0 ∧ ((w.onTables && w.keeps) = true ∨ ∃ ty, w = .arrayClass ty) := ⟨hm, good_of_word (List.all_eq_true.mp W0_good w hm)⟩
theorem goodV {own : String} {idx : Nat} {y : MethodName} {cc : ByteArray} {nL : Nat} {rt : Option FieldType} {n ci : Nat} (B : CBV own idx y cc nL rt n ci) : GoodIn W0 (wsV own idx y.cls y (Cond.code y cc nL rt :: W0)) := by
  obtain ⟨⟨h1, h2, h3, -, -, -⟩, h4, h5, -⟩ := B
  intro w hw
  unfold wsV at hw
  rcases List.mem_append.mp hw with hw | hw
  · simp only [List.mem_cons, List.not_mem_nil, or_false] at hw
    rcases hw with rfl | rfl | rfl | rfl
    · exact good_mem h1
    · exact good_mem h4
    · exact good_mem h5
    · exact good_mem h2
  · exact good_cons h3 w hw
theorem goodS {own : String} {idx : Nat} {y : MethodName} {cc : ByteArray} {nL : Nat} {rt : Option FieldType} {n : Nat} (B : CBS own idx y cc nL rt n) : GoodIn W0 (va_wsS own idx y (Cond.code y cc nL rt :: W0)) := by
  obtain ⟨⟨h1, h2, h3, -, -, -⟩, h4⟩ := B
  intro w hw
  unfold va_wsS at hw
  rcases List.mem_append.mp hw with hw | hw
  · simp only [List.mem_cons, List.not_mem_nil, or_false] at hw
    rcases hw with rfl | rfl | rfl
    · exact good_mem h1
    · exact good_mem h4
    · exact good_mem h2
  · exact good_cons h3 w hw
section GC
variable {p : Program} {l : Launch} {e : Env} {s : State} {m : MethodId} {args : Array Value} {below : List Frame} {meth : Method} {c : Code} {H : Heap} {locs : List Loc} {Q : State → Prop}
variable {g : Geo} {own : String} {cc : ByteArray} {nL : Nat} {rt : Option FieldType} {σ σ' : St} {pc : Nat} {ls : Array Slot} {rest st0 : List Value}
variable {a b a' b' : Nat} {As : List Value} {idx n ci k : Nat} {y : MethodName} {cc' : ByteArray} {nL' : Nat} {rt' : Option FieldType} {r : Int32}
theorem gvI (X : Cx g own cc nL rt p s m args meth c) (Y : Wd g s σ H locs) (hM : CtI l y cc' nL' rt' (rmm a' b') g (.ref (g.2.2 k) :: As) σ r σ') (B : CBV own idx y cc' nL' rt' n ci) (hk : kd k = ci) (hls : ls.size = nL) (hn : As.length = n) (hst : st0 = As.reverse ++ .ref (g.2.2 k) :: rest) (hW : (rest.map fun v => v.category).sum ≤ 8) (hR : a' + 1 ≤ a ∧ 8 + (nL' + 11) + b' ≤ b) (hdg : decode cc pc = .ok (.invokevirtual idx, 3))
    (kk : ∀ (H1 : Heap) (locs1 : List Loc), Wd g s σ' H1 locs1 → W p l e (rmm a b) s m args below meth c H1 locs1 0 0 Q (F0 m (pc + 3) ls (.int r :: rest))) : W p l e (rmm a b) s m args below meth c H locs 0 0 Q (F0 m pc ls st0) := by
  obtain ⟨hx, hb, hml, hr, hown, hts, hK, hG, hlk⟩ := X
  obtain ⟨hP, hS⟩ := Y
  obtain ⟨⟨b1, b2, b3, b4, b5, b6⟩, b7, b8, T, N, ty0, bC⟩ := id B
  have he : (wld g σ)[k]? = some (g.2.2 k, .inr (ci, (List.range (nf ci)).map (fvc ci g.2.2 σ k))) := by rw [wld_get (kd_lt hk (Nat.lt_trans bC.2.2.1 (by decide))), ent_obj hk bC.2.2.1]
  refine va_calli (A1 := GA g H.size) (A0 := GA g s.heap.size) (H0 := s.heap) (va_runV (As := As) (rest := rest) ⟨hx, hb, hml, hown, hts⟩ (hM hG H.size) (cwV n hts (goodV B) rfl rfl rfl ⟨rfl, b4, b5, b6⟩ hR) ⟨pre_blind, va_recv hK hP bC.1 he, fun U hU hW => ⟨rfl, by rw [hU], by rw [hU]; exact hP, va_K.moved hW.alike hK, hlk.2.warm hW⟩⟩ rfl hn hls hst (lv_room hW) hdg ⟨Nat.le_refl _, Nat.le_refl _⟩) hS (fun q _ h => ga_up hS.1 q h) (fun q h => ga_up hS.1 q h) (fun r u t H1 locs1 ht hvm hw hB hz hk hS1 => ?_)
  rw [ht] at hB
  subst hw
  exact kk H1 locs1 ⟨hB, hS1⟩
theorem gvV (X : Cx g own cc nL rt p s m args meth c) (Y : Wd g s σ H locs) (hM : CtV l y cc' nL' rt' (rmm a' b') g (.ref (g.2.2 k) :: As) σ σ') (B : CBV own idx y cc' nL' rt' n ci) (hk : kd k = ci) (hls : ls.size = nL) (hn : As.length = n) (hst : st0 = As.reverse ++ .ref (g.2.2 k) :: rest) (hW : (rest.map fun v => v.category).sum ≤ 8) (hR : a' + 1 ≤ a ∧ 8 + (nL' + 11) + b' ≤ b) (hdg : decode cc pc = .ok (.invokevirtual idx, 3))
    (kk : ∀ (H1 : Heap) (locs1 : List Loc), Wd g s σ' H1 locs1 → W p l e (rmm a b) s m args below meth c H1 locs1 0 0 Q (F0 m (pc + 3) ls rest)) : W p l e (rmm a b) s m args below meth c H locs 0 0 Q (F0 m pc ls st0) := by
  obtain ⟨hx, hb, hml, hr, hown, hts, hK, hG, hlk⟩ := X
  obtain ⟨hP, hS⟩ := Y
  obtain ⟨⟨b1, b2, b3, b4, b5, b6⟩, b7, b8, T, N, ty0, bC⟩ := id B
  have he : (wld g σ)[k]? = some (g.2.2 k, .inr (ci, (List.range (nf ci)).map (fvc ci g.2.2 σ k))) := by rw [wld_get (kd_lt hk (Nat.lt_trans bC.2.2.1 (by decide))), ent_obj hk bC.2.2.1]
  refine va_callv (A1 := GA g H.size) (A0 := GA g s.heap.size) (H0 := s.heap) (va_runV (As := As) (rest := rest) ⟨hx, hb, hml, hown, hts⟩ (hM hG H.size) (cwV n hts (goodV B) rfl rfl rfl ⟨rfl, b4, b5, b6⟩ hR) ⟨pre_blind, va_recv hK hP bC.1 he, fun U hU hW => ⟨rfl, by rw [hU], by rw [hU]; exact hP, va_K.moved hW.alike hK, hlk.2.warm hW⟩⟩ rfl hn hls hst (lv_room hW) hdg ⟨Nat.le_refl _, Nat.le_refl _⟩) hS (fun q _ h => ga_up hS.1 q h) (fun q h => ga_up hS.1 q h) (fun u t H1 locs1 ht hvm hw hB hz hk hS1 => ?_)
  rw [ht] at hB
  exact kk H1 locs1 ⟨hB, hS1⟩
theorem gsI (X : Cx g own cc nL rt p s m args meth c) (Y : Wd g s σ H locs) (hM : CtI l y cc' nL' rt' (rmm a' b') g As σ r σ') (B : CBS own idx y cc' nL' rt' n) (hls : ls.size = nL) (hn : As.length = n) (hst : st0 = As.reverse ++ rest) (hW : (rest.map fun v => v.category).sum ≤ 8) (hR : a' + 1 ≤ a ∧ 8 + (nL' + 11) + b' ≤ b) (hdg : decode cc pc = .ok (.invokestatic idx, 3))
    (kk : ∀ (H1 : Heap) (locs1 : List Loc), Wd g s σ' H1 locs1 → W p l e (rmm a b) s m args below meth c H1 locs1 0 0 Q (F0 m (pc + 3) ls (.int r :: rest))) : W p l e (rmm a b) s m args below meth c H locs 0 0 Q (F0 m pc ls st0) := by
  obtain ⟨hx, hb, hml, hr, hown, hts, hK, hG, hlk⟩ := X
  obtain ⟨hP, hS⟩ := Y
  obtain ⟨⟨b1, b2, b3, b4, b5, b6⟩, b7⟩ := id B
  refine va_calli (A1 := GA g H.size) (A0 := GA g s.heap.size) (H0 := s.heap) (va_runS (As := As) (rest := rest) ⟨hx, hb, hml, hown, hts⟩ (hM hG H.size) (va_cwS n hts (goodS B) rfl rfl rfl ⟨b4, b5, b6⟩ hR) ⟨pre_blind, fun U hU hW => ⟨rfl, by rw [hU], by rw [hU]; exact hP, va_K.moved hW.alike hK, hlk.2.warm hW⟩⟩ rfl hn hls hst (lv_room hW) hdg ⟨Nat.le_refl _, Nat.le_refl _⟩) hS (fun q _ h => ga_up hS.1 q h) (fun q h => ga_up hS.1 q h) (fun r u t H1 locs1 ht hvm hw hB hz hk hS1 => ?_)
  rw [ht] at hB
  subst hw
  exact kk H1 locs1 ⟨hB, hS1⟩
theorem gsV (X : Cx g own cc nL rt p s m args meth c) (Y : Wd g s σ H locs) (hM : CtV l y cc' nL' rt' (rmm a' b') g As σ σ') (B : CBS own idx y cc' nL' rt' n) (hls : ls.size = nL) (hn : As.length = n) (hst : st0 = As.reverse ++ rest) (hW : (rest.map fun v => v.category).sum ≤ 8) (hR : a' + 1 ≤ a ∧ 8 + (nL' + 11) + b' ≤ b) (hdg : decode cc pc = .ok (.invokestatic idx, 3))
    (kk : ∀ (H1 : Heap) (locs1 : List Loc), Wd g s σ' H1 locs1 → W p l e (rmm a b) s m args below meth c H1 locs1 0 0 Q (F0 m (pc + 3) ls rest)) : W p l e (rmm a b) s m args below meth c H locs 0 0 Q (F0 m pc ls st0) := by
  obtain ⟨hx, hb, hml, hr, hown, hts, hK, hG, hlk⟩ := X
  obtain ⟨hP, hS⟩ := Y
  obtain ⟨⟨b1, b2, b3, b4, b5, b6⟩, b7⟩ := id B
  refine va_callv (A1 := GA g H.size) (A0 := GA g s.heap.size) (H0 := s.heap) (va_runS (As := As) (rest := rest) ⟨hx, hb, hml, hown, hts⟩ (hM hG H.size) (va_cwS n hts (goodS B) rfl rfl rfl ⟨b4, b5, b6⟩ hR) ⟨pre_blind, fun U hU hW => ⟨rfl, by rw [hU], by rw [hU]; exact hP, va_K.moved hW.alike hK, hlk.2.warm hW⟩⟩ rfl hn hls hst (lv_room hW) hdg ⟨Nat.le_refl _, Nat.le_refl _⟩) hS (fun q _ h => ga_up hS.1 q h) (fun q h => ga_up hS.1 q h) (fun u t H1 locs1 ht hvm hw hB hz hk hS1 => ?_)
  rw [ht] at hB
  exact kk H1 locs1 ⟨hB, hS1⟩
theorem gsIN (X : Cx g own cc nL rt p s m args meth c) (Y : Wd g s σ H locs) (hM : CtI l y cc' nL' rt' (rmm a' b') g As σ r σ') (B : CBN own idx y cc' nL' rt' n) (hls : ls.size = nL) (hn : As.length = n) (hst : st0 = As.reverse ++ rest) (hW : (rest.map fun v => v.category).sum ≤ 8) (hR : a' + 1 ≤ a ∧ 8 + (nL' + 11) + b' ≤ b) (hdg : decode cc pc = .ok (.invokestatic idx, 3))
    (kk : ∀ (H1 : Heap) (locs1 : List Loc), Wd g s σ' H1 locs1 → W p l e (rmm a b) s m args below meth c H1 locs1 0 0 Q (F0 m (pc + 3) ls (.int r :: rest))) : W p l e (rmm a b) s m args below meth c H locs 0 0 Q (F0 m pc ls st0) := by
  obtain ⟨hx, hb, hml, hr, hown, hts, hK, hG, hlk⟩ := X
  obtain ⟨hP, hS⟩ := Y
  obtain ⟨b1, b2, b3, b4, b5, b6, b7⟩ := id B
  refine va_calli (A1 := GA g H.size) (A0 := GA g s.heap.size) (H0 := s.heap) (va_runSN (As := As) (rest := rest) ⟨hx, hb, hml, hown, hts⟩ (hM hG H.size) ⟨va_cnB (host := "SheetNester") n hts (good_cons b3) rfl rfl rfl (hlk.2.2 _ b1) (hts _ b2) ⟨b4, b5, b6⟩ hR, hts _ b7, trivial⟩ ⟨pre_blind, fun U hU hW => ⟨rfl, by rw [hU], by rw [hU]; exact hP, va_K.moved hW.alike hK, hlk.2.warm hW⟩⟩ rfl hn hls hst (lv_room hW) hdg ⟨Nat.le_refl _, Nat.le_refl _⟩) hS (fun q _ h => ga_up hS.1 q h) (fun q h => ga_up hS.1 q h) (fun r u t H1 locs1 ht hvm hw hB hz hk hS1 => ?_)
  rw [ht] at hB
  subst hw
  exact kk H1 locs1 ⟨hB, hS1⟩
theorem gsVN (X : Cx g own cc nL rt p s m args meth c) (Y : Wd g s σ H locs) (hM : CtV l y cc' nL' rt' (rmm a' b') g As σ σ') (B : CBN own idx y cc' nL' rt' n) (hls : ls.size = nL) (hn : As.length = n) (hst : st0 = As.reverse ++ rest) (hW : (rest.map fun v => v.category).sum ≤ 8) (hR : a' + 1 ≤ a ∧ 8 + (nL' + 11) + b' ≤ b) (hdg : decode cc pc = .ok (.invokestatic idx, 3))
    (kk : ∀ (H1 : Heap) (locs1 : List Loc), Wd g s σ' H1 locs1 → W p l e (rmm a b) s m args below meth c H1 locs1 0 0 Q (F0 m (pc + 3) ls rest)) : W p l e (rmm a b) s m args below meth c H locs 0 0 Q (F0 m pc ls st0) := by
  obtain ⟨hx, hb, hml, hr, hown, hts, hK, hG, hlk⟩ := X
  obtain ⟨hP, hS⟩ := Y
  obtain ⟨b1, b2, b3, b4, b5, b6, b7⟩ := id B
  refine va_callv (A1 := GA g H.size) (A0 := GA g s.heap.size) (H0 := s.heap) (va_runSN (As := As) (rest := rest) ⟨hx, hb, hml, hown, hts⟩ (hM hG H.size) ⟨va_cnB (host := "SheetNester") n hts (good_cons b3) rfl rfl rfl (hlk.2.2 _ b1) (hts _ b2) ⟨b4, b5, b6⟩ hR, hts _ b7, trivial⟩ ⟨pre_blind, fun U hU hW => ⟨rfl, by rw [hU], by rw [hU]; exact hP, va_K.moved hW.alike hK, hlk.2.warm hW⟩⟩ rfl hn hls hst (lv_room hW) hdg ⟨Nat.le_refl _, Nat.le_refl _⟩) hS (fun q _ h => ga_up hS.1 q h) (fun q h => ga_up hS.1 q h) (fun u t H1 locs1 ht hvm hw hB hz hk hS1 => ?_)
  rw [ht] at hB
  exact kk H1 locs1 ⟨hB, hS1⟩
end GC
section GE
variable {l : Launch} {g : Geo} {cc : ByteArray} {nL : Nat} {rt : Option FieldType} {σ σ' : St} {a b : Nat} {As : List Value} {y : MethodName} {r : Int32}
/-- a method's body, from its entry -/
theorem enI (ty : FieldType) (hy : plainName y.cls = true) (hrt : rt = some ty) (hnr : narrow ty (.int r) = .int r) (hl : (lg_sl As).length ≤ nL)
    (body : ∀ (p : Program) (e : Env) (s : State) (m : MethodId) (args : Array Value) (below : List Frame) (meth : Method) (c : Code) (Q : State → Prop), Cx g y.cls cc nL rt p s m args meth c → Wd g s σ s.heap [] → ∀ ls, lv_has ls nL (lv_args 0 As) →
      (∀ (H : Heap) (locs : List Loc) (ls : Array Slot) (pc : Nat), Wd g s σ' H locs → decode cc pc = .ok (.ireturn, 1) → W p l e (rmm a b) s m args below meth c H locs 0 0 Q (F0 m pc ls [.int r])) →
      W p l e (rmm a b) s m args below meth c s.heap [] 0 0 Q (F0 m 0 ls [])) : CtI l y cc nL rt (rmm a b) g As σ r σ' := by
  intro hG sz
  refine Met.ofW (cc := cc) (maxL := nL) (ret := rt) hy rfl ?_
  intro p e s m args below meth c s₁ B hml hv
  obtain ⟨rfl, hsz, hP, hK, hN⟩ := hv
  have hx := B.exec
  have hb := B.bytes
  have hr := B.returns
  have hts := atoms_spec (ws := Cond.code y cc nL rt :: W0) B.pre
  have hown : s.vm.findClass y.cls = some m.cls := findClass_of_methodNamed B.named
  have hlocks := B.notSynchronized
  subst hsz
  have hl := lv_entry As (n := nL) hl
  rw [lg_entry_eq]
  generalize (lg_sl As ++ List.replicate (nL - (lg_sl As).length) Slot.unset).toArray = ls at hl ⊢
  refine body p e s m As.toArray below meth c _ ⟨hx, hb, hml, hr, hown, fun w h => hts w (List.mem_cons_of_mem _ h), hK, hG, hlocks, hN⟩ ⟨hP, va_S.rf⟩ ls hl ?_
  intro H locs ls pc hY hd
  exact W.zret (ty := ty) (v := r) hx hb (hr.trans hrt) hnr (fun t ht hW => ⟨⟨r, (), rfl, rfl, by show va_P g.1 vwCl (wld g σ') t.heap; rw [ht]; exact hY.1⟩, hY.2.F ht⟩) hY.2.2.2 hd hlocks
theorem enV (hy : plainName y.cls = true) (hrt : rt = none) (hl : (lg_sl As).length ≤ nL)
    (body : ∀ (p : Program) (e : Env) (s : State) (m : MethodId) (args : Array Value) (below : List Frame) (meth : Method) (c : Code) (Q : State → Prop), Cx g y.cls cc nL rt p s m args meth c → Wd g s σ s.heap [] → ∀ ls, lv_has ls nL (lv_args 0 As) →
      (∀ (H : Heap) (locs : List Loc) (ls : Array Slot) (pc : Nat), Wd g s σ' H locs → decode cc pc = .ok (.return_, 1) → W p l e (rmm a b) s m args below meth c H locs 0 0 Q (F0 m pc ls [])) →
      W p l e (rmm a b) s m args below meth c s.heap [] 0 0 Q (F0 m 0 ls [])) : CtV l y cc nL rt (rmm a b) g As σ σ' := by
  intro hG sz
  refine Met.ofW (cc := cc) (maxL := nL) (ret := rt) hy rfl ?_
  intro p e s m args below meth c s₁ B hml hv
  obtain ⟨rfl, hsz, hP, hK, hN⟩ := hv
  have hx := B.exec
  have hb := B.bytes
  have hr := B.returns
  have hts := atoms_spec (ws := Cond.code y cc nL rt :: W0) B.pre
  have hown : s.vm.findClass y.cls = some m.cls := findClass_of_methodNamed B.named
  have hlocks := B.notSynchronized
  subst hsz
  have hl := lv_entry As (n := nL) hl
  rw [lg_entry_eq]
  generalize (lg_sl As ++ List.replicate (nL - (lg_sl As).length) Slot.unset).toArray = ls at hl ⊢
  refine body p e s m As.toArray below meth c _ ⟨hx, hb, hml, hr, hown, fun w h => hts w (List.mem_cons_of_mem _ h), hK, hG, hlocks, hN⟩ ⟨hP, va_S.rf⟩ ls hl ?_
  intro H locs ls pc hY hd
  exact W.vret hx hb (hr.trans hrt) (fun t ht hW => ⟨⟨(), rfl, trivial, by show va_P g.1 vwCl (wld g σ') t.heap; rw [ht]; exact hY.1⟩, hY.2.F ht⟩) hY.2.2.2 hd hlocks
end GE
