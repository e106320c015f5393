/-! floats, the law's out arrays, and methods that catch -/
def nf32 (r : UInt32) : Bool := decide (r &&& 0x7fffffff ≤ 0x7f800000)
def nf64 (r : UInt64) : Bool := decide (r &&& 0x7fffffffffffffff ≤ 0x7ff0000000000000)
theorem nf32p {r : UInt32} (h : nf32 r = true) : vf_n32 r := (of_decide_eq_true h : r &&& 0x7fffffff ≤ 0x7f800000)
theorem nf64p {r : UInt64} (h : nf64 r = true) : vf_n64 r := (of_decide_eq_true h : r &&& 0x7fffffffffffffff ≤ 0x7ff0000000000000)
def CtF (l : Launch) (y : MethodName) (cc : ByteArray) (nL : Nat) (rt : Option FieldType) (rm : Room) (g : Geo) (As : List Value) (σ : St) (r : Int32) (σ' : St) : Prop := Gok g → ∀ sz, Met l y (Cond.code y cc nL rt :: W0) rm (va_Pc As (pre g σ sz)) (va_Qf (fun v (_ : Unit) => v = r.toUInt32) (fun _ t => va_P g.1 vwCl (wld g σ') t.heap) (GA g sz)) 0 0 (GA g sz)
def CtTF (l : Launch) (y : MethodName) (cc : ByteArray) (nL : Nat) (rt : Option FieldType) (a b mc ms : Nat) (g : Geo) (As : List Value) (σ : St) (w : (String × St) ⊕ (Int32 × St)) : Prop := Gok g → l.stackTraces = false → ∀ sz, vx_Met l y (Cond.code y cc nL rt :: W0) (rmT a b mc ms) (va_Pc As (preT g σ sz))
  (va_Qf (fun v (_ : Unit) => ∃ (r : Int32) (τ : St), v = r.toUInt32 ∧ w = .inr (r, τ)) (fun _ t => ∀ q, w = .inr q → va_P g.1 vwCl (wld g q.2) t.heap) (GA g sz)) (vx_X (fun (_ : Unit) => True) (fun E _ t => ∃ τ, w = .inl (E, τ) ∧ va_P g.1 vwCl (wld g τ) t.heap) (GA g sz)) mc ms (GA g sz)
/-- a method with a table of its own: it catches all that it calls throw -/
def CtH (l : Launch) (y : MethodName) (cc : ByteArray) (nL : Nat) (rt : Option FieldType) (hh : List (Nat × Nat × Nat × Nat)) (a b mc ms : Nat) (g : Geo) (As : List Value) (σ : St) (w : Int32 × St) : Prop := Gok g → l.stackTraces = false → ∀ sz, vx_Met l y (Cond.codeWith y cc nL rt hh :: W0) (rmT a b mc ms) (va_Pc As (preT g σ sz))
  (va_Qi (fun v (_ : Unit) => v = w.1) (fun _ t => va_P g.1 vwCl (wld g w.2) t.heap) (GA g sz)) (vx_X (fun (_ : Unit) => False) (fun _ _ _ => True) (GA g sz)) mc ms (GA g sz)
def CBH (own : String) (idx : Nat) (y : MethodName) (cc : ByteArray) (nL : Nat) (rt : Option FieldType) (hh : List (Nat × Nat × Nat × Nat)) (n : Nat) : Prop :=
  Cond.methodLink own idx y ∈ W0 ∧ Cond.initialized y.cls ∈ W0 ∧ Cond.codeWith y cc nL rt hh ∈ W0 ∧ y.cls ≠ "java/lang/invoke/MethodHandle" ∧ y.cls ≠ "java/lang/invoke/VarHandle" ∧ (parseMethodDescriptor y.desc).map (fun d => d.parameters.length) = some n ∧ Cond.static y ∈ W0
theorem goodH {own : String} {idx : Nat} {y : MethodName} {cc : ByteArray} {nL : Nat} {rt : Option FieldType} {hh : List (Nat × Nat × Nat × Nat)} {n : Nat} (B : CBH own idx y cc nL rt hh n) : GoodIn W0 (va_wsS own idx y (Cond.codeWith y cc nL rt hh :: W0)) := by
  obtain ⟨h1, h2, h3, -, -, -, h4⟩ := B
  intro w hw
  unfold va_wsS at hw
  rcases List.mem_append.mp hw with hw | hw
  · simp only [List.mem_cons, List.not_mem_nil, or_false] at hw
    rcases hw with rfl | rfl | rfl
    · exact good_mem h1
    · exact good_mem h4
    · exact good_mem h2
  · rcases List.mem_cons.mp hw with rfl | hw
    · exact good_mem h3
    · exact good_mem hw
section GH
variable {p : Program} {l : Launch} {e : Env} {s : State} {m : MethodId} {args : Array Value} {below : List Frame} {meth : Method} {c : Code} {H : Heap} {locs : List Loc} {Q : State → Prop}
variable {g : Geo} {own : String} {cc : ByteArray} {nL : Nat} {rt : Option FieldType} {σ σ' : St} {pc : Nat} {ls : Array Slot} {rest st0 : List Value} {R : Room} {k0 n0 : Nat}
variable {a b a' b' mc' ms' : Nat} {As : List Value} {idx n ci k : Nat} {y : MethodName} {cc' : ByteArray} {nL' : Nat} {rt' : Option FieldType} {r : Int32} {hh' : List (Nat × Nat × Nat × Nat)}
theorem gls {k : Nat} {i x : Int32} (X : Cx g own cc nL rt p s m args meth c) (Y : Wd g s σ H locs) (hk : kd k = 24) (hin : vp_in i (ln k)) (hdg : decode cc pc = .ok (.lastore, 1))
    (kk : ∀ (H1 : Heap) (locs1 : List Loc), Wd g s (up σ k i.toNatClampNeg x) H1 locs1 → W p l e R s m args below meth c H1 locs1 k0 n0 Q (F0 m (pc + 1) ls rest)) : W p l e R s m args below meth c H locs k0 n0 Q (F0 m pc ls (.long x.toInt64 :: .int i :: .ref (g.2.2 k) :: rest)) := by
  obtain ⟨hx, hb, hml, hr, hown, hts, hK, hG, hlk⟩ := X
  have he : (wld g σ)[k]? = some (g.2.2 k, .inl (g.2.1 4, ln k, .inr (.inl (fun i => (σ k i).toInt64)))) := by rw [wld_get (kd_lt hk (by omega)), ent_long hk]
  refine va_last hx hb hK Y.1 (wld_D hG σ _) Y.2 k 4 he (tys_get (by omega)) hin hdg (fun H1 locs1 hP hD hS => ?_)
  refine kk H1 locs1 ⟨?_, hS⟩
  rw [wld_set (f := upd (σ k) i.toNatClampNeg x) (kd_lt hk (by omega))] at hP
  · exact hP
  · rw [ent_long hk, upA_same]
    congr 5
    funext j
    simp only [vp_updL, upd]
    split <;> rfl
theorem gll {k : Nat} {i : Int32} (X : Cx g own cc nL rt p s m args meth c) (Y : Wd g s σ H locs) (hk : kd k = 24) (hin : vp_in i (ln k)) (hdg : decode cc pc = .ok (.laload, 1))
    (kk : W p l e R s m args below meth c H locs k0 n0 Q (F0 m (pc + 1) ls (.long (σ k i.toNatClampNeg).toInt64 :: rest))) : W p l e R s m args below meth c H locs k0 n0 Q (F0 m pc ls (.int i :: .ref (g.2.2 k) :: rest)) := by
  obtain ⟨hx, hb, hml, hr, hown, hts, hK, hG, hlk⟩ := X
  have he : (wld g σ)[k]? = some (g.2.2 k, .inl (g.2.1 4, ln k, .inr (.inl (fun i => (σ k i).toInt64)))) := by rw [wld_get (kd_lt hk (by omega)), ent_long hk]
  exact va_lald hx hb hK Y.1 k 4 he (tys_get (by omega)) hin hdg kk
theorem gds {k : Nat} {i x : Int32} (X : Cx g own cc nL rt p s m args meth c) (Y : Wd g s σ H locs) (hk : kd k = 25) (hin : vp_in i (ln k)) (hdg : decode cc pc = .ok (.dastore, 1))
    (kk : ∀ (H1 : Heap) (locs1 : List Loc), Wd g s (up σ k i.toNatClampNeg x) H1 locs1 → W p l e R s m args below meth c H1 locs1 k0 n0 Q (F0 m (pc + 1) ls rest)) : W p l e R s m args below meth c H locs k0 n0 Q (F0 m pc ls (.double (FP.f2d x.toUInt32) :: .int i :: .ref (g.2.2 k) :: rest)) := by
  obtain ⟨hx, hb, hml, hr, hown, hts, hK, hG, hlk⟩ := X
  have he : (wld g σ)[k]? = some (g.2.2 k, .inl (g.2.1 5, ln k, .inr (.inr (.inr (.inl (fun i => FP.f2d (σ k i).toUInt32)))))) := by rw [wld_get (kd_lt hk (by omega)), ent_dbl hk]
  refine va_dast hx hb hK Y.1 (wld_D hG σ _) Y.2 k 5 he (tys_get (by omega)) hin hdg (fun H1 locs1 hP hD hS => ?_)
  refine kk H1 locs1 ⟨?_, hS⟩
  rw [wld_set (f := upd (σ k) i.toNatClampNeg x) (kd_lt hk (by omega))] at hP
  · exact hP
  · rw [ent_dbl hk, upA_same]
    congr 7
    funext j
    simp only [vf_upd, upd]
    split <;> rfl
theorem gdl {k : Nat} {i : Int32} (X : Cx g own cc nL rt p s m args meth c) (Y : Wd g s σ H locs) (hk : kd k = 25) (hin : vp_in i (ln k)) (hdg : decode cc pc = .ok (.daload, 1))
    (kk : W p l e R s m args below meth c H locs k0 n0 Q (F0 m (pc + 1) ls (.double (FP.f2d (σ k i.toNatClampNeg).toUInt32) :: rest))) : W p l e R s m args below meth c H locs k0 n0 Q (F0 m pc ls (.int i :: .ref (g.2.2 k) :: rest)) := by
  obtain ⟨hx, hb, hml, hr, hown, hts, hK, hG, hlk⟩ := X
  have he : (wld g σ)[k]? = some (g.2.2 k, .inl (g.2.1 5, ln k, .inr (.inr (.inr (.inl (fun i => FP.f2d (σ k i).toUInt32)))))) := by rw [wld_get (kd_lt hk (by omega)), ent_dbl hk]
  exact va_dald hx hb hK Y.1 k 5 he (tys_get (by omega)) hin hdg kk
theorem gvFx (X : Cx g own cc nL rt p s m args meth c) (Y : Wd g s σ H locs) (hM : CtF l y cc' nL' rt' (rmm a' b') g (.ref (g.2.2 k) :: As) σ r σ') (B : CBV own idx y cc' nL' rt' n ci) (hk : kd k = ci) (hls : ls.size = nL) (hn : As.length = n) (hst : st0 = As.reverse ++ .ref (g.2.2 k) :: rest) (hW : (rest.map fun v => v.category).sum ≤ 8) (hR : a' + 1 ≤ R.frames ∧ 8 + (nL' + 11) + b' ≤ R.locals) (hkn : k0 ≤ R.cells ∧ n0 ≤ R.slots) (hdg : decode cc pc = .ok (.invokevirtual idx, 3))
    (kk : ∀ (H1 : Heap) (locs1 : List Loc), Wd g s σ' H1 locs1 → W p l e R s m args below meth c H1 locs1 k0 n0 Q (F0 m (pc + 3) ls (.float r.toUInt32 :: rest))) : W p l e R s m args below meth c H locs k0 n0 Q (F0 m pc ls st0) := by
  obtain ⟨hx, hb, hml, hr, hown, hts, hK, hG, hlk⟩ := X
  obtain ⟨hP, hS⟩ := Y
  obtain ⟨⟨b1, b2, b3, b4, b5, b6⟩, b7, b8, T, N, ty0, bC⟩ := id B
  have he : (wld g σ)[k]? = some (g.2.2 k, .inr (ci, (List.range (nf ci)).map (fvc ci g.2.2 σ k))) := by rw [wld_get (kd_lt hk (Nat.lt_trans bC.2.2.1 (by decide))), ent_obj hk bC.2.2.1]
  refine va_callf (A1 := GA g H.size) (A0 := GA g s.heap.size) (H0 := s.heap) (va_runV (As := As) (rest := rest) ⟨hx, hb, hml, hown, hts⟩ (hM hG H.size) (cwV n hts (goodV B) rfl rfl rfl ⟨rfl, b4, b5, b6⟩ hR) ⟨pre_blind, va_recv hK hP bC.1 he, fun U hU hW => ⟨rfl, by rw [hU], by rw [hU]; exact hP, va_K.moved hW.alike hK, hlk.2.warm hW⟩⟩ rfl hn hls hst (lv_room hW) hdg hkn) hS (fun q _ h => ga_up hS.1 q h) (fun q h => ga_up hS.1 q h) (fun r u t H1 locs1 ht hvm hw hB hz hk hS1 => ?_)
  rw [ht] at hB
  subst hw
  exact kk H1 locs1 ⟨hB, hS1⟩
theorem gvTF {w : (String × St) ⊕ (Int32 × St)} (X : Cx g own cc nL rt p s m args meth c) (TX : TXs g (GA g s.heap.size) s s.heap) (hst : l.stackTraces = false) (Y : Wd g s σ H locs) (hM : CtTF l y cc' nL' rt' a' b' mc' ms' g (.ref (g.2.2 k) :: As) σ w) (B : CBV own idx y cc' nL' rt' n ci) (hk : kd k = ci) (hls : ls.size = nL) (hn : As.length = n) (hst0 : st0 = As.reverse ++ .ref (g.2.2 k) :: rest) (hW : (rest.map fun v => v.category).sum ≤ 8) (hR : a' + 1 ≤ R.frames ∧ 8 + (nL' + 11) + b' ≤ R.locals) (hkn : k0 + mc' ≤ R.cells ∧ n0 + ms' ≤ R.slots) (hdg : decode cc pc = .ok (.invokevirtual idx, 3))
    (kx : ∀ (E : String) (τ : St) (ce : Cell) (q9 : Addr) (H1 : Heap) (locs1 : List Loc), w = .inl (E, τ) → Wd g s τ H1 locs1 → H1[q9]? = some ce → ce.vm = .none → s.vm.findClass E = some ce.cls → vx_W p l e R s m args below meth c H1 locs1 (k0 + mc') (n0 + ms') Q (F0 m pc ls rest) q9)
    (kk : ∀ (v : Int32) (τ : St) (H1 : Heap) (locs1 : List Loc), w = .inr (v, τ) → Wd g s τ H1 locs1 → W p l e R s m args below meth c H1 locs1 (k0 + mc') (n0 + ms') Q (F0 m (pc + 3) ls (.float v.toUInt32 :: rest))) : W p l e R s m args below meth c H locs k0 n0 Q (F0 m pc ls st0) := by
  obtain ⟨hx, hb, hml, hr, hown, hts, hK, hG, hlk⟩ := X
  obtain ⟨hP, hS⟩ := Y
  obtain ⟨⟨b1, b2, b3, b4, b5, b6⟩, b7, b8, T, N, ty0, bC⟩ := id B
  have he : (wld g σ)[k]? = some (g.2.2 k, .inr (ci, (List.range (nf ci)).map (fvc ci g.2.2 σ k))) := by rw [wld_get (kd_lt hk (Nat.lt_trans bC.2.2.1 (by decide))), ent_obj hk bC.2.2.1]
  have hT : TXs g (GA g H.size) s H := (TX.kept hS.2.1).narrow (ga_up hS.1)
  refine vx_callf (A1 := GA g H.size) (A0 := GA g s.heap.size) (AX := GA g H.size) (H0 := s.heap) (vx_runV (As := As) (rest := rest) ⟨hx, hb, hml, hown, hts⟩ (hM hG hst H.size) (cwV n hts (goodV B) rfl rfl rfl ⟨rfl, b4, b5, b6⟩ hR) ⟨preT_blind, va_recv hK hP bC.1 he, fun U hU hW => ⟨rfl, ⟨by rw [hU], by rw [hU]; exact hP, va_K.moved hW.alike hK, hlk.2.warm hW⟩, by rw [hU]; exact hT.warm hW⟩⟩ rfl hn hls hst0 (lv_room hW) hdg hkn) hS (fun q _ h => ga_up hS.1 q h) (fun q h => ga_up hS.1 q h) (fun q _ h => ga_up hS.1 q h) (fun E ce q9 u t H1 locs1 ht hvm _ hB hz hk1 hS1 h1 h2 h3 => ?_) (fun v u t H1 locs1 ht hvm hw hB hz hk1 hS1 => ?_)
  · obtain ⟨τ, hw, hB⟩ := hB
    rw [ht] at hB
    exact kx E τ ce q9 H1 locs1 hw ⟨hB, hS1⟩ h1 h2 h3
  · obtain ⟨r, τ, hv, hw⟩ := hw
    have hB := hB _ hw
    rw [ht] at hB
    subst hv
    exact kk r τ H1 locs1 hw ⟨hB, hS1⟩
theorem gsH {w : Int32 × St} (X : Cx g own cc nL rt p s m args meth c) (TX : TXs g (GA g s.heap.size) s s.heap) (hst : l.stackTraces = false) (Y : Wd g s σ H locs) (hM : CtH l y cc' nL' rt' hh' a' b' mc' ms' g As σ w) (B : CBH own idx y cc' nL' rt' hh' n) (hls : ls.size = nL) (hn : As.length = n) (hst0 : st0 = As.reverse ++ rest) (hW : (rest.map fun v => v.category).sum ≤ 8) (hR : a' + 1 ≤ R.frames ∧ 8 + (nL' + 11) + b' ≤ R.locals) (hkn : k0 + mc' ≤ R.cells ∧ n0 + ms' ≤ R.slots) (hdg : decode cc pc = .ok (.invokestatic idx, 3))
    (kk : ∀ (H1 : Heap) (locs1 : List Loc), Wd g s w.2 H1 locs1 → W p l e R s m args below meth c H1 locs1 (k0 + mc') (n0 + ms') Q (F0 m (pc + 3) ls (.int w.1 :: rest))) : W p l e R s m args below meth c H locs k0 n0 Q (F0 m pc ls st0) := by
  obtain ⟨hx, hb, hml, hr, hown, hts, hK, hG, hlk⟩ := X
  obtain ⟨hP, hS⟩ := Y
  obtain ⟨b1, b2, b3, b4, b5, b6, b7⟩ := id B
  have hT : TXs g (GA g H.size) s H := (TX.kept hS.2.1).narrow (ga_up hS.1)
  refine vx_calli (A1 := GA g H.size) (A0 := GA g s.heap.size) (AX := GA g H.size) (H0 := s.heap) (vx_runSX (As := As) (rest := rest) ⟨hx, hb, hml, hown, hts⟩ (hM hG hst H.size) (vx_cwSW n hts (goodH B) rfl rfl rfl ⟨b4, b5, b6⟩ hR) ⟨preT_blind, fun U hU hW => ⟨rfl, ⟨by rw [hU], by rw [hU]; exact hP, va_K.moved hW.alike hK, hlk.2.warm hW⟩, by rw [hU]; exact hT.warm hW⟩⟩ rfl hn hls hst0 (lv_room hW) hdg hkn) hS (fun q _ h => ga_up hS.1 q h) (fun q h => ga_up hS.1 q h) (fun q _ h => ga_up hS.1 q h) (fun E ce q9 u t H1 locs1 ht hvm hx _ hz hk1 hS1 h1 h2 h3 => hx.elim) (fun v u t H1 locs1 ht hvm hw hB hz hk1 hS1 => ?_)
  rw [ht] at hB
  subst hw
  exact kk H1 locs1 ⟨hB, hS1⟩
end GH
section GHE
variable {l : Launch} {g : Geo} {cc : ByteArray} {nL : Nat} {rt : Option FieldType} {σ σ' : St} {a b mc ms : Nat} {As : List Value} {y : MethodName} {r : Int32}
theorem enF (hy : plainName y.cls = true) (hrt : rt = some .float) (hl : (lg_sl As).length ≤ nL)
    (body : ∀ (p : Program) (e : Env) (s : State) (m : MethodId) (args : Array Value) (below : List Frame) (meth : Method) (c : Code) (Q : State → Prop), Cx g y.cls cc nL rt p s m args meth c → Wd g s σ s.heap [] → ∀ ls, lv_has ls nL (lv_args 0 As) →
      (∀ (H : Heap) (locs : List Loc) (ls : Array Slot) (pc : Nat), Wd g s σ' H locs → decode cc pc = .ok (.freturn, 1) → W p l e (rmm a b) s m args below meth c H locs 0 0 Q (F0 m pc ls [.float r.toUInt32])) →
      W p l e (rmm a b) s m args below meth c s.heap [] 0 0 Q (F0 m 0 ls [])) : CtF l y cc nL rt (rmm a b) g As σ r σ' := by
  intro hG sz
  refine Met.ofW (cc := cc) (maxL := nL) (ret := rt) hy rfl ?_
  intro p e s m args below meth c s₁ B hml hv
  obtain ⟨rfl, hsz, hP, hK, hN⟩ := hv
  have hx := B.exec
  have hb := B.bytes
  have hr := B.returns
  have hts := atoms_spec (ws := Cond.code y cc nL rt :: W0) B.pre
  have hown : s.vm.findClass y.cls = some m.cls := findClass_of_methodNamed B.named
  have hlocks := B.notSynchronized
  subst hsz
  have hl := lv_entry As (n := nL) hl
  rw [lg_entry_eq]
  generalize (lg_sl As ++ List.replicate (nL - (lg_sl As).length) Slot.unset).toArray = ls at hl ⊢
  refine body p e s m As.toArray below meth c _ ⟨hx, hb, hml, hr, hown, fun w h => hts w (List.mem_cons_of_mem _ h), hK, hG, hlocks, hN⟩ ⟨hP, va_S.rf⟩ ls hl ?_
  intro H locs ls pc hY hd
  exact W.fret (v := r.toUInt32) hx hb (hr.trans hrt) (fun t ht hW => ⟨⟨r.toUInt32, (), rfl, rfl, by show va_P g.1 vwCl (wld g σ') t.heap; rw [ht]; exact hY.1⟩, hY.2.F ht⟩) hY.2.2.2 hd hlocks
theorem enH {w : Int32 × St} {hh : List (Nat × Nat × Nat × Nat)} (ty : FieldType) (hy : plainName y.cls = true) (hrt : rt = some ty) (hnr : ∀ v : Int32, narrow ty (.int v) = .int v) (hl : (lg_sl As).length ≤ nL)
    (body : ∀ (p : Program) (e : Env) (s : State) (m : MethodId) (args : Array Value) (below : List Frame) (meth : Method) (c : Code) (Q : State → Prop), Cx g y.cls cc nL rt p s m args meth c → TXs g (GA g s.heap.size) s s.heap → l.stackTraces = false → c.exceptionTable.toList = tableOf hh → Wd g s σ s.heap [] → ∀ ls, lv_has ls nL (lv_args 0 As) →
      (∀ (v : Int32) (τ : St) (H : Heap) (locs : List Loc) (ls : Array Slot) (pc k n : Nat), w = (v, τ) → k ≤ mc → n ≤ ms → Wd g s τ H locs → decode cc pc = .ok (.ireturn, 1) → W p l e (rmT a b mc ms) s m args below meth c H locs k n Q (F0 m pc ls [.int v])) →
      W p l e (rmT a b mc ms) s m args below meth c s.heap [] 0 0 Q (F0 m 0 ls [])) : CtH l y cc nL rt hh a b mc ms g As σ w := by
  intro hG hst sz
  refine vx_ofWH (cc := cc) (maxL := nL) (ret := rt) (hh := hh) hy rfl ?_
  intro p e s m args below meth c s₁ B hml hv
  obtain ⟨rfl, ⟨hsz, hP, hK, hN⟩, hT⟩ := hv
  have hx := B.exec
  have hb := B.bytes
  have hr := B.returns
  have hts := atoms_spec (ws := Cond.codeWith y cc nL rt hh :: W0) B.pre
  have htab := vx_table (x := y) B (hts _ List.mem_cons_self)
  have hown : s.vm.findClass y.cls = some m.cls := findClass_of_methodNamed B.named
  have hlocks := B.notSynchronized
  subst hsz
  have hl := lv_entry As (n := nL) hl
  rw [lg_entry_eq]
  generalize (lg_sl As ++ List.replicate (nL - (lg_sl As).length) Slot.unset).toArray = ls at hl ⊢
  refine body p e s m As.toArray below meth c _ ⟨hx, hb, hml, hr, hown, fun w h => hts w (List.mem_cons_of_mem _ h), hK, hG, hlocks, hN⟩ hT hst htab ⟨hP, va_S.rf⟩ ls hl ?_
  intro v τ H locs ls pc k n hw hk hn hY hd
  subst hw
  refine vx_ret (W.widen hk hn ?_)
  exact W.zret (ty := ty) (v := v) hx hb (hr.trans hrt) (hnr v) (fun t ht hW => ⟨⟨v, (), rfl, rfl, by show va_P g.1 vwCl (wld g τ) t.heap; rw [ht]; exact hY.1⟩, hY.2.F ht⟩) hY.2.2.2 hd hlocks
theorem enTF {w : (String × St) ⊕ (Int32 × St)} (hy : plainName y.cls = true) (hrt : rt = some .float) (hl : (lg_sl As).length ≤ nL) (hab : 5 < a ∧ 8 + (13 * (XN.length + 1) + 43) ≤ b)
    (body : ∀ (p : Program) (e : Env) (s : State) (m : MethodId) (args : Array Value) (below : List Frame) (meth : Method) (c : Code) (Q : State → Prop), Cx g y.cls cc nL rt p s m args meth c → TXs g (GA g s.heap.size) s s.heap → l.stackTraces = false → Wd g s σ s.heap [] → ∀ ls, lv_has ls nL (lv_args 0 As) →
      (∀ (v : UInt32) (τ : St) (H : Heap) (locs : List Loc) (ls : Array Slot) (pc k n : Nat), w = .inr (v.toInt32, τ) → k ≤ mc → n ≤ ms → Wd g s τ H locs → decode cc pc = .ok (.freturn, 1) → W p l e (rmT a b mc ms) s m args below meth c H locs k n Q (F0 m pc ls [.float v])) →
      (∀ (E text : String) (ik is ic : Nat) (τ : St) (H : Heap) (locs : List Loc) (ls : Array Slot) (pc : Nat) (rest : List Value) (k n : Nat), THx y.cls E text ik is ic → w = .inl (E, τ) → Wd g s τ H locs → ls.size = nL → (rest.map fun v => v.category).sum ≤ 8 → (decode cc pc = .ok (.new ik, 3) ∧ decode cc (pc + 3) = .ok (.dup, 1) ∧ ((decode cc (pc + 4) = .ok (.ldc is, 2) ∧ decode cc (pc + 6) = .ok (.invokespecial ic, 3) ∧ decode cc (pc + 9) = .ok (.athrow, 1)) ∨ (decode cc (pc + 4) = .ok (.ldc_w is, 3) ∧ decode cc (pc + 7) = .ok (.invokespecial ic, 3) ∧ decode cc (pc + 10) = .ok (.athrow, 1)))) → k + 1 ≤ mc → n + 6 ≤ ms → W p l e (rmT a b mc ms) s m args below meth c H locs k n Q (F0 m pc ls rest)) →
      (∀ (E : String) (τ : St) (ce : Cell) (q9 : Addr) (H : Heap) (locs : List Loc) (ls : Array Slot) (pc : Nat) (rest : List Value) (k n : Nat), w = .inl (E, τ) → Wd g s τ H locs → H[q9]? = some ce → ce.vm = .none → s.vm.findClass E = some ce.cls → k ≤ mc → n ≤ ms → vx_W p l e (rmT a b mc ms) s m args below meth c H locs k n Q (F0 m pc ls rest) q9) →
      W p l e (rmT a b mc ms) s m args below meth c s.heap [] 0 0 Q (F0 m 0 ls [])) : CtTF l y cc nL rt a b mc ms g As σ w := by
  intro hG hst sz
  refine vx_ofW (cc := cc) (maxL := nL) (ret := rt) hy rfl ?_
  intro p e s m args below meth c s₁ B hml htab hv
  obtain ⟨rfl, ⟨hsz, hP, hK, hN⟩, hT⟩ := hv
  have hx := B.exec
  have hb := B.bytes
  have hr := B.returns
  have hts := atoms_spec (ws := Cond.code y cc nL rt :: W0) B.pre
  have hown : s.vm.findClass y.cls = some m.cls := findClass_of_methodNamed B.named
  have hlocks := B.notSynchronized
  subst hsz
  have hl := lv_entry As (n := nL) hl
  rw [lg_entry_eq]
  generalize (lg_sl As ++ List.replicate (nL - (lg_sl As).length) Slot.unset).toArray = ls at hl ⊢
  have hW0 : ∀ w ∈ W0, w.before As.toArray s = true := fun w h => hts w (List.mem_cons_of_mem _ h)
  refine body p e s m As.toArray below meth c _ ⟨hx, hb, hml, hr, hown, hW0, hK, hG, hlocks, hN⟩ hT hst ⟨hP, va_S.rf⟩ ls hl ?_ ?_ ?_
  · intro v τ H locs ls pc k n hw hk hn hY hd
    refine vx_ret (W.widen hk hn ?_)
    exact W.fret (v := v) hx hb (hr.trans hrt) (fun t ht hW => ⟨⟨v, (), rfl, ⟨v.toInt32, τ, rfl, hw⟩, fun q hq => by rw [hw] at hq; cases hq; show va_P g.1 vwCl (wld g τ) t.heap; rw [ht]; exact hY.1⟩, hY.2.F ht⟩) hY.2.2.2 hd hlocks
  · intro E text ik is ic τ H locs ls pc rest k n hTH hw hY hsize hrest hd hk hn
    obtain ⟨t1, t2, t3, t4, t5, t6, t7, t8⟩ := hTH
    obtain ⟨sa, hsa⟩ := hT.2.2.1 _ t3
    have hat : ∀ w ∈ vq_at y.cls ic E "java/lang/RuntimeException" ["java/lang/Exception"], w.before As.toArray s = true := vx_hat (B := Cond.castable E E :: DCl.map Cond.declares) (fun w h => hW0 w (t6 w h)) t7 (vx_c (va_Nw.use rfl (hT.2.2.2.1 E t4)) (fun w hw => by obtain ⟨y, hy, rfl⟩ := List.mem_map.mp hw; exact va_Nw.use rfl (hT.2.2.2.2.1 y hy)))
    have hxx : ∀ t : State, s.vm.Alike t.vm → H.size ≤ t.heap.size → (∀ q : Nat, q < H.size → t.heap[q]? = H[q]?) → vx_X (fun (_ : Unit) => True) (fun E _ t => ∃ τ, w = .inl (E, τ) ∧ va_P g.1 vwCl (wld g τ) t.heap) (GA g s.heap.size) E s t := fun t hvm hz hk => ⟨(), trivial, ⟨τ, hw, wd_kept hY hk⟩, wd_F hY hz hk⟩
    rcases hd with ⟨d1, d2, ⟨d3, d4, d5⟩ | ⟨d3, d4, d5⟩⟩
    · exact vq_throwS (sa := sa) hx hb hst hown t5 XN_fit (hW0 _ t1) (hW0 _ t2) hsa hat t8 hT.1 hT.2.1 hY.2 (hsize.trans hml.symm) d1 d2 d3 d4 d5 (fun x hx => (htab x hx).elim) (show XN.length + 3 < a from hab.1) (Nat.le_trans (Nat.add_le_add_right hrest _) hab.2) (Nat.le_trans hk (Nat.le_refl _)) hn hlocks hxx hY.2.2.2 hk hn
    · exact vq_throwSW (sa := sa) hx hb hst hown t5 XN_fit (hW0 _ t1) (hW0 _ t2) hsa hat t8 hT.1 hT.2.1 hY.2 (hsize.trans hml.symm) d1 d2 d3 d4 d5 (fun x hx => (htab x hx).elim) (show XN.length + 3 < a from hab.1) (Nat.le_trans (Nat.add_le_add_right hrest _) hab.2) (Nat.le_trans hk (Nat.le_refl _)) hn hlocks hxx hY.2.2.2 hk hn
  · intro E τ ce q9 H locs ls pc rest k n hw hY h1 h2 h3 hk hn
    exact vx_out (fun x hx => (htab x hx).elim) hlocks h1 h2 h3 (fun t ht hvm => ⟨(), trivial, ⟨τ, hw, by rw [ht]; exact hY.1⟩, hY.2.F ht⟩) hY.2.2.2 hk hn
end GHE
