/-! CONSTRUCTORS: the world grows, as a list of cells -/
def preC (g : Geo) (w0 : va_W) (sz : Nat) : State → Prop := fun U => U.heap.size = sz ∧ va_P g.1 vwCl w0 U.heap ∧ va_K g.1 vwCl (tys g) U ∧ va_D (fun _ => True) w0 ∧ va_AO "SheetNester$Shop" U
def CtC (l : Launch) (y : MethodName) (cc : ByteArray) (nL : Nat) (a b mc ms : Nat) (g : Geo) (As : List Value) (w0 : va_W) (w1 : (Nat → Nat) → va_W) : Prop := ∀ sz, Met l y (Cond.code y cc nL none :: W0) (rmT a b mc ms) (va_Pc As (preC g w0 sz)) (va_Qv (fun (_ : Nat → Nat) => True) (fun u t => va_P g.1 vwCl (w1 u) t.heap ∧ va_D (va_A w0 sz) (w1 u)) (va_A w0 sz)) mc ms (va_A w0 sz)
def CBI (own : String) (idx : Nat) (y : MethodName) (cc : ByteArray) (nL : Nat) (n : Nat) : Prop :=
  Cond.methodLink own idx y ∈ W0 ∧ Cond.initialized y.cls ∈ W0 ∧ Cond.code y cc nL none ∈ W0 ∧ (y.cls ≠ "java/lang/invoke/MethodHandle" ∧ y.cls ≠ "java/lang/invoke/VarHandle" ∧ (parseMethodDescriptor y.desc).map (fun d => d.parameters.length) = some n) ∧ Cond.instanceMethod y ∈ W0 ∧ y.name = "<init>"
def Cc (g : Geo) (own : String) (cc : ByteArray) (nL : Nat) (p : Program) (s : State) (m : MethodId) (args : Array Value) (meth : Method) (c : Code) : Prop :=
  p.tables.exec = Jvm.exec ∧ c.code = cc ∧ c.maxLocals = nL ∧ s.vm.findClass own = some m.cls ∧ (∀ w ∈ W0, w.before args s = true) ∧ va_K g.1 vwCl (tys g) s ∧ va_AO "SheetNester$Shop" s
/-- the world of a body: cells, apart, nothing else written -/
def Wc (g : Geo) (s : State) (A : Nat → Prop) (ws : va_W) (H : Heap) (locs : List Loc) : Prop := va_P g.1 vwCl ws H ∧ va_D A ws ∧ va_S A s.heap H locs ∧ (∀ q, s.heap.size ≤ q → A q)
def NL (own : String) (idx c : Nat) : Prop := ∃ C T N ty0, CL c C T N ty0 ∧ Cond.classLink own idx C ∈ W0 ∧ Cond.instantiable C N ∈ W0 ∧ Cond.initialized C ∈ W0
def dfl (c : Nat) (fs : List Value) : Prop := ∀ C T N ty0, CL c C T N ty0 → ∀ j, j < N → defaultValue (ty0 j) = vp_V fs j
def FV (own : String) (idx c j : Nat) (ty : FieldType) (fin : Bool) : Prop := ∃ C T N ty0, CL c C T N ty0 ∧ j < N ∧ Cond.fieldLink own idx (T j).1 (T j).2.1 (T j).2.2.1 ∈ W0 ∧ (T j).2.2.2 = fin ∧ ty0 j = ty ∧ (T j).1 = own
theorem pre_blindC {g : Geo} {w0 : va_W} {sz : Nat} {As : List Value} : FrameBlind (va_Pc As (preC g w0 sz)) := fun a U gg mk q => by
  obtain ⟨q0, q1, qP, qK, qD, qO⟩ := q
  exact ⟨q0, q1, qP, va_K.moved (u := U) (U := U.calling gg mk a) (Vm.Alike.refl U.vm) qK, qD, va_AO.moved (Vm.Alike.refl U.vm) qO⟩
section GN
variable {p : Program} {l : Launch} {e : Env} {s : State} {m : MethodId} {args : Array Value} {below : List Frame} {meth : Method} {c : Code} {H : Heap} {locs : List Loc} {Q : State → Prop} {R : Room} {k0 n0 : Nat}
variable {g : Geo} {own : String} {cc : ByteArray} {nL : Nat} {pc : Nat} {ls : Array Slot} {rest st0 : List Value} {A : Nat → Prop} {ws : va_W}
theorem nnew {ci idx N1 : Nat} {fs : List Value} (X : Cc g own cc nL p s m args meth c) (Y : Wc g s A ws H locs) (F : NL own idx ci) (hf : dfl ci fs) (hN : nf ci = N1) (hc : k0 + 1 ≤ R.cells) (hs : n0 + N1 ≤ R.slots) (hdg : decode cc pc = .ok (.new idx, 3))
    (kk : ∀ (q : Nat) (H : Heap), Wc g s A (ws ++ [(q, .inr (ci, fs))]) H locs → W p l e R s m args below meth c H locs (k0 + 1) (n0 + N1) Q (F0 m (pc + 3) ls (.ref q :: rest))) : W p l e R s m args below meth c H locs k0 n0 Q (F0 m pc ls rest) := by
  obtain ⟨hx, hb, hml, hown, hts, hK, hO⟩ := X
  obtain ⟨hP, hD, hS, hA⟩ := Y
  obtain ⟨C, T, N, ty0, F1, f1, f2, f3⟩ := F
  have e1 : N = N1 := F1.2.1.trans hN
  subst e1
  exact va_new hx hb hts F1.2.2.2.1 ty0 F1.2.2.2.2.1 hown (hts _ f1) (hts _ f2) (hts _ f3) hK hP hD hS hA F1.1 (hf C T N ty0 F1) hc hs hdg (fun q H hP hD hS => kk q H ⟨hP, hD, hS, hA⟩)
theorem nobj {idx : Nat} {a : Addr} (X : Cc g own cc nL p s m args meth c) (hls : ls.size = nL) (h1 : Cond.methodLink own idx objectInit ∈ W0) (h2 : Cond.instanceMethod objectInit ∈ W0) (h3 : Cond.code objectInit ⟨#[0xb1]⟩ 1 none ∈ W0) (hf : 1 ≤ R.frames) (hl : (rest.map fun v => v.category).sum + 12 ≤ R.locals) (hdg : decode cc pc = .ok (.invokespecial idx, 3))
    (kk : W p l e R s m args below meth c H locs k0 n0 Q (F0 m (pc + 3) ls rest)) : W p l e R s m args below meth c H locs k0 n0 Q (F0 m pc ls (.ref a :: rest)) := by
  obtain ⟨hx, hb, hml, hown, hts, hK, hO⟩ := X
  refine W.objInit hx hb hown (hts _ h1) (hts _ h2) (hts _ h3) rfl (hls.trans hml.symm) rfl hdg hf (by show 2 * 0 + _ + 12 ≤ _; omega) ?_
  exact kk
theorem nput {idx ci j q0 a : Nat} {ty : FieldType} {fin : Bool} {fs : List Value} {v : Value} (X : Cc g own cc nL p s m args meth c) (hin : meth.name = "<init>") (Y : Wc g s A ws H locs) (F : FV own idx ci j ty fin) (he : ws[q0]? = some (a, .inr (ci, fs))) (hl : j < fs.length) (hn : narrow ty v = v) (hfit : fits ty v = true) (hdg : decode cc pc = .ok (.putfield idx, 3))
    (kk : ∀ (H : Heap) (locs : List Loc), Wc g s A (ws.set q0 (a, .inr (ci, fs.set j v))) H locs → W p l e R s m args below meth c H locs k0 n0 Q (F0 m (pc + 3) ls rest)) : W p l e R s m args below meth c H locs k0 n0 Q (F0 m pc ls (v :: .ref a :: rest)) := by
  obtain ⟨hx, hb, hml, hown, hts, hK, hO⟩ := X
  obtain ⟨hP, hD, hS, hA⟩ := Y
  obtain ⟨C, T, N, ty0, ⟨f1, f2, f3, f4, f5, f6⟩, hj, hlk, hfin, hty, hdc⟩ := F
  cases fin with
  | true => exact va_putF hx hb hts f4 ty0 f5 f6 hown hK hP hD hS q0 he f1 j hj (hts _ hlk) (fun _ h => h) hfin hin hdc (f5 j hj) (by rw [hty]; exact hn) (by rw [hty]; exact hfit) hl hdg (fun H locs hP hD hS => kk H locs ⟨hP, hD, hS, hA⟩)
  | false => exact va_put hx hb hts f4 ty0 f5 f6 hown hK hP hD hS q0 he f1 j hj (hts _ hlk) (fun _ h => h) hfin (f5 j hj) (by rw [hty]; exact hn) (by rw [hty]; exact hfit) hl hdg (fun H locs hP hD hS => kk H locs ⟨hP, hD, hS, hA⟩)
theorem nget {idx ci j q0 a : Nat} {ty : FieldType} {fin : Bool} {fs : List Value} {v : Value} (X : Cc g own cc nL p s m args meth c) (Y : Wc g s A ws H locs) (F : FV own idx ci j ty fin) (he : ws[q0]? = some (a, .inr (ci, fs))) (hv : fs[j]? = some v) (hdg : decode cc pc = .ok (.getfield idx, 3))
    (kk : W p l e R s m args below meth c H locs k0 n0 Q (F0 m (pc + 3) ls (v :: rest))) : W p l e R s m args below meth c H locs k0 n0 Q (F0 m pc ls (.ref a :: rest)) := by
  obtain ⟨hx, hb, hml, hown, hts, hK, hO⟩ := X
  obtain ⟨hP, hD, hS, hA⟩ := Y
  obtain ⟨C, T, N, ty0, ⟨f1, f2, f3, f4, f5, f6⟩, hj, hlk, hfin, hty, hdc⟩ := F
  exact va_get hx hb hts f4 hown hK hP q0 he f1 j hj (hts _ hlk) (fun _ h => h) hv hdg kk
theorem narr {atype : ArrayType} {i : Nat} {n : Int32} {N' : Nat} {a0 : vp_A} (X : Cc g own cc nL p s m args meth c) (Y : Wc g s A ws H locs) (harr : Cond.arrayClass (newarray.typeOf atype) ∈ W0) (hi : i < 6) (h3 : i ≠ 3) (hty : newarray.typeOf atype = tyt i) (ha : ∀ cA : ClassId, vp_cell cA a0 = arrV cA N' (fun _ => defaultValue (tyt i))) (hn : ¬ n < 0) (hN : n.toNatClampNeg = N') (hby : N' * componentBytes (tyt i) ≤ 536870912) (hc : k0 + 1 ≤ R.cells) (hs : n0 + N' ≤ R.slots) (hdg : decode cc pc = .ok (.newarray atype, 2))
    (kk : ∀ (q : Nat) (H : Heap), Wc g s A (ws ++ [(q, .inl (g.2.1 i, a0))]) H locs → W p l e R s m args below meth c H locs (k0 + 1) (n0 + N') Q (F0 m (pc + 2) ls (.ref q :: rest))) : W p l e R s m args below meth c H locs k0 n0 Q (F0 m pc ls (.int n :: rest)) := by
  obtain ⟨hx, hb, hml, hown, hts, hK, hO⟩ := X
  obtain ⟨hP, hD, hS, hA⟩ := Y
  refine va_newa hx hb (hts _ harr) hty hK hP hD hS hA ha hn hN hby hc hs hdg (fun q cA H hK' hP hD hS => ?_)
  have h1 := (hK'.2 6 (cA, tyt i) (by rw [List.getElem?_append_right (by simp [tys])]; simp [tys])).2
  have h2 := (hK.2 i _ (tys_get hi)).2
  have e1 : cA = g.2.1 i := by
    have hk : ∀ t : FieldType, t = tyt i → va_RA s cA t → va_RA s (g.2.1 i) t → cA = g.2.1 i := by
      intro t ht u1 u2
      cases t with
      | object C => 
        obtain ⟨k1, c1, a1, a2, a3, a4⟩ := u1
        obtain ⟨k2, c2, b1, b2, b3, b4⟩ := u2
        exact Option.some.inj (a4.symm.trans b4)
      | _ => exact Option.some.inj (u1.symm.trans u2)
    exact hk _ rfl h1 h2
  subst e1
  exact kk q H ⟨hP, hD, hS, hA⟩
theorem narq {idx : Nat} {n : Int32} {N' : Nat} (X : Cc g own cc nL p s m args meth c) (Y : Wc g s A ws H locs) (hcl : Cond.classLink own idx "SheetNester$Shop" ∈ W0) (hn : ¬ n < 0) (hN : n.toNatClampNeg = N') (hby : N' * 4 ≤ 536870912) (hc : k0 + 1 ≤ R.cells) (hs : n0 + N' ≤ R.slots) (hdg : decode cc pc = .ok (.anewarray idx, 3))
    (kk : ∀ (q : Nat) (H : Heap), Wc g s A (ws ++ [(q, .inl (g.2.1 3, N', .inr (.inr (.inr (.inr (fun _ => none))))))]) H locs → W p l e R s m args below meth c H locs (k0 + 1) (n0 + N') Q (F0 m (pc + 3) ls (.ref q :: rest))) : W p l e R s m args below meth c H locs k0 n0 Q (F0 m pc ls (.int n :: rest)) := by
  obtain ⟨hx, hb, hml, hown, hts, hK, hO⟩ := X
  obtain ⟨hP, hD, hS, hA⟩ := Y
  refine va_newq hx hb hown (hts _ hcl) hO hK hP hD hS hA hn hN hby hc hs hdg (fun q cA H hK' hP hD hS => ?_)
  have h1 := (hK'.2 6 (cA, .object "SheetNester$Shop") (by rw [List.getElem?_append_right (by simp [tys])]; simp [tys])).2
  have h2 := (hK.2 3 _ (tys_get (by omega))).2
  have e1 : cA = g.2.1 3 := by
    obtain ⟨k1, c1, a1, a2, a3, a4⟩ := h1
    obtain ⟨k2, c2, b1, b2, b3, b4⟩ := h2
    exact Option.some.inj (a4.symm.trans b4)
  subst e1
  exact kk q H ⟨hP, hD, hS, hA⟩
theorem nast {q0 qk a v n : Nat} {vs : List Value} {f : Nat → Option Nat} {i : Int32} (X : Cc g own cc nL p s m args meth c) (Y : Wc g s A ws H locs) (ha : ws[q0]? = some (a, .inl (g.2.1 3, n, .inr (.inr (.inr (.inr f)))))) (hv : ws[qk]? = some (v, .inr (9, vs))) (hin : vp_in i n) (hdg : decode cc pc = .ok (.aastore, 1))
    (kk : ∀ (H : Heap) (locs : List Loc), Wc g s A (ws.set q0 (a, .inl (g.2.1 3, n, .inr (.inr (.inr (.inr (va_up f i.toNatClampNeg (some v)))))))) H locs → W p l e R s m args below meth c H locs k0 n0 Q (F0 m (pc + 1) ls rest)) : W p l e R s m args below meth c H locs k0 n0 Q (F0 m pc ls (.ref v :: .int i :: .ref a :: rest)) := by
  obtain ⟨hx, hb, hml, hown, hts, hK, hO⟩ := X
  obtain ⟨hP, hD, hS, hA⟩ := Y
  exact va_astq hx hb hK hP hD hS q0 3 qk 9 (r := (RX8, TX8, 3)) ha (tys_get (by omega)) hv rfl hin hdg (fun H locs hP hD hS => kk H locs ⟨hP, hD, hS, hA⟩)
theorem nalen {q0 a n : Nat} {f : Nat → Option Nat} {v : Int32} (X : Cc g own cc nL p s m args meth c) (Y : Wc g s A ws H locs) (ha : ws[q0]? = some (a, .inl (g.2.1 3, n, .inr (.inr (.inr (.inr f)))))) (hv : Int32.ofNat n = v) (hdg : decode cc pc = .ok (.arraylength, 1))
    (kk : W p l e R s m args below meth c H locs k0 n0 Q (F0 m (pc + 1) ls (.int v :: rest))) : W p l e R s m args below meth c H locs k0 n0 Q (F0 m pc ls (.ref a :: rest)) := by
  obtain ⟨hx, hb, hml, hown, hts, hK, hO⟩ := X
  obtain ⟨hP, hD, hS, hA⟩ := Y
  exact va_alen hx hb hK hP q0 3 ha (tys_get (by omega)) hv hdg kk
theorem ncall {idx n a' b' mc' ms' b : Nat} {nL' : Nat} {y : MethodName} {cc' : ByteArray} {As : List Value} {w0 wr : va_W} {w1 : (Nat → Nat) → va_W} (X : Cc g own cc nL p s m args meth c) (Y : Wc g s A ws H locs) (hM : CtC l y cc' nL' a' b' mc' ms' g (.ref b :: As) w0 w1) (B : CBI own idx y cc' nL' n) (isC isR : List Nat) (hC : isC.map (fun i => ws[i]?) = w0.map some) (hR : isR.map (fun i => ws[i]?) = wr.map some) (hn1 : va_nd isR = true) (hn2 : va_nd isC = true) (hdis : ∀ i ∈ isR, i ∉ isC) (hls : ls.size = nL) (hn : As.length = n) (hst0 : st0 = As.reverse ++ .ref b :: rest) (hW : (rest.map fun v => v.category).sum ≤ 8) (hRm : a' + 1 ≤ R.frames ∧ 8 + (nL' + 11) + b' ≤ R.locals) (hkn : k0 + mc' ≤ R.cells ∧ n0 + ms' ≤ R.slots) (hdg : decode cc pc = .ok (.invokespecial idx, 3))
    (kk : ∀ (u : Nat → Nat) (H : Heap) (locs : List Loc), Wc g s A (wr ++ w1 u) H locs → W p l e R s m args below meth c H locs (k0 + mc') (n0 + ms') Q (F0 m (pc + 3) ls rest)) : W p l e R s m args below meth c H locs k0 n0 Q (F0 m pc ls st0) := by
  obtain ⟨hx, hb, hml, hown, hts, hK, hO⟩ := X
  obtain ⟨hP, hD, hS, hA⟩ := Y
  obtain ⟨b1, b2, b3, b4, b5, b6⟩ := B
  have at' : ∀ (k : Nat) (q : Nat × va_E), w0[k]? = some q → ∃ i, isC[k]? = some i ∧ ws[i]? = some q := by
    intro k q hq
    have h1 : (isC.map (fun i => ws[i]?))[k]? = some (some q) := by rw [hC, List.getElem?_map, hq]; rfl
    rw [List.getElem?_map] at h1
    cases hi : isC[k]? with
    | none => rw [hi] at h1; cases h1
    | some i => rw [hi] at h1; exact ⟨i, rfl, Option.some.inj h1⟩
  have hPc : va_P g.1 vwCl w0 H := fun k q hq => by obtain ⟨i, -, hi⟩ := at' k q hq; exact hP i q hi
  have hDc : va_D (fun _ => True) w0 := by
    refine ⟨fun i j p q h1 h2 h3 => ?_, fun _ _ _ => trivial⟩
    obtain ⟨i1, z1, y1⟩ := at' i p h1
    obtain ⟨j1, z2, y2⟩ := at' j q h2
    have e1 := hD.1 i1 j1 p q y1 y2 h3
    exact va_nd_inj _ hn2 i j i1 z1 (e1 ▸ z2)
  have hF := va_free (wc := w0) hD hS hA isC hC
  refine va_callv (A1 := va_A w0 H.size) (A0 := A) (H0 := s.heap) (va_runI (As := As) (rest := rest) ⟨hx, hb, hml, hown, hts⟩ (hM H.size) (cwI n hts (good_cons b3) rfl rfl rfl (hts _ b2) (hts _ b1) (hts _ b5) b6 b4 hRm) ⟨pre_blindC, fun U hU hW => ⟨rfl, by rw [hU], by rw [hU]; exact hPc, va_K.moved hW.alike hK, hDc, va_AO.moved hW.alike hO⟩⟩ rfl hn hls hst0 (lv_room hW) hdg hkn) hS (fun q _ h => hF q h) hF (fun u t H1 locs1 ht hvm hw hB hz hk1 hS1 => ?_)
  obtain ⟨hP1, hD1⟩ := hB
  rw [ht] at hP1
  obtain ⟨hP2, hD2⟩ := va_join hP hD isC isR hC hR hn1 hdis hk1 hF hP1 hD1
  exact kk u H1 locs1 ⟨hP2, hD2, hS1, hA⟩
end GN
section GNE
variable {l : Launch} {g : Geo} {cc : ByteArray} {nL : Nat} {a b mc ms : Nat} {As : List Value} {y : MethodName}
theorem enC {w0 : va_W} {w1 : (Nat → Nat) → va_W} (hy : plainName y.cls = true) (hyn : y.name = "<init>") (hl : (lg_sl As).length ≤ nL)
    (body : ∀ (p : Program) (e : Env) (s : State) (m : MethodId) (args : Array Value) (below : List Frame) (meth : Method) (c : Code) (Q : State → Prop) (A : Nat → Prop), Cc g y.cls cc nL p s m args meth c → meth.name = "<init>" → Wc g s A w0 s.heap [] → ∀ ls, lv_has ls nL (lv_args 0 As) →
      (∀ (u : Nat → Nat) (H : Heap) (locs : List Loc) (ls : Array Slot) (pc : Nat), Wc g s A (w1 u) H locs → decode cc pc = .ok (.return_, 1) → W p l e (rmT a b mc ms) s m args below meth c H locs mc ms Q (F0 m pc ls [])) →
      W p l e (rmT a b mc ms) s m args below meth c s.heap [] 0 0 Q (F0 m 0 ls [])) : CtC l y cc nL a b mc ms g As w0 w1 := by
  intro sz
  refine Met.ofW (cc := cc) (maxL := nL) (ret := none) hy rfl ?_
  intro p e s m args below meth c s₁ B hml hv
  obtain ⟨rfl, hsz, hP, hK, hD0, hO⟩ := hv
  have hx := B.exec
  have hb := B.bytes
  have hr := B.returns
  have hts := atoms_spec (ws := Cond.code y cc nL none :: W0) B.pre
  have hown : s.vm.findClass y.cls = some m.cls := findClass_of_methodNamed B.named
  have hlocks := B.notSynchronized
  have hin : meth.name = "<init>" := (name_of_methodNamed B.named B.method).1.trans hyn
  subst hsz
  have hl := lv_entry As (n := nL) hl
  rw [lg_entry_eq]
  generalize (lg_sl As ++ List.replicate (nL - (lg_sl As).length) Slot.unset).toArray = ls at hl ⊢
  refine body p e s m As.toArray below meth c _ (va_A w0 s.heap.size) ⟨hx, hb, hml, hown, fun w h => hts w (List.mem_cons_of_mem _ h), hK, hO⟩ hin ⟨hP, hD0.self, va_S.rf, fun q h => Or.inr h⟩ ls hl ?_
  intro u H locs ls pc hY hd
  exact W.vret hx hb hr (fun t ht hW => ⟨⟨u, rfl, trivial, by rw [ht]; exact hY.1, hY.2.1⟩, hY.2.2.1.F ht⟩) hY.2.2.1.2.2 hd hlocks
end GNE
