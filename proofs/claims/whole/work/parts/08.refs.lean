/-! the one row of references, and a method that answers a reference or null -/
def kd9 (k : Nat) : Bool := decide (kd k = 9)
theorem k9p {k : Nat} (h : kd9 k = true) : kd k = 9 := of_decide_eq_true h
theorem elN {α β : Type} {a : β} {f : α → β} {r : β} (h : Option.elim none a f = r) : a = r := h
theorem elS {α β : Type} {a : β} {f : α → β} {v : α} {r : β} (h : Option.elim (some v) a f = r) : f v = r := h
def CtQ (l : Launch) (y : MethodName) (cc : ByteArray) (nL : Nat) (rt : Option FieldType) (rm : Room) (g : Geo) (As : List Value) (σ : St) (r : Option Nat) : Prop := Gok g → ∀ sz, Met l y (Cond.code y cc nL rt :: W0) rm (va_Pc As (pre g σ sz)) (va_Qq (fun v (_ : Unit) => v = r.map g.2.2) (fun _ t => va_P g.1 vwCl (wld g σ) t.heap) (GA g sz)) 0 0 (GA g sz)
section GQ
variable {p : Program} {l : Launch} {e : Env} {s : State} {m : MethodId} {args : Array Value} {below : List Frame} {meth : Method} {c : Code} {H : Heap} {locs : List Loc} {Q : State → Prop}
variable {g : Geo} {own : String} {cc : ByteArray} {nL : Nat} {rt : Option FieldType} {σ : St} {pc : Nat} {ls : Array Slot} {rest st0 : List Value}
variable {a b a' b' : Nat} {As : List Value} {idx n ci k : Nat} {y : MethodName} {cc' : ByteArray} {nL' : Nat} {rt' : Option FieldType}
theorem gal3 {v : Int32} (X : Cx g own cc nL rt p s m args meth c) (Y : Wd g s σ H locs) (hk : kd k = 23) (hv : Int32.ofNat (ln k) = v) (hdg : decode cc pc = .ok (.arraylength, 1))
    (kk : W p l e (rmm a b) s m args below meth c H locs 0 0 Q (F0 m (pc + 1) ls (.int v :: rest))) : W p l e (rmm a b) s m args below meth c H locs 0 0 Q (F0 m pc ls (.ref (g.2.2 k) :: rest)) := by
  obtain ⟨hx, hb, hml, hr, hown, hts, hK, hG, hlk⟩ := X
  have he : (wld g σ)[k]? = some (g.2.2 k, .inl (g.2.1 3, ln k, .inr (.inr (.inr (.inr (fun i => some (g.2.2 (22 + 7 * i)))))))) := by rw [wld_get (kd_lt hk (by omega)), ent_shops hk]
  exact va_alen hx hb hK Y.1 k 3 he (tys_get (by omega)) hv hdg kk
theorem gaa {i : Int32} (X : Cx g own cc nL rt p s m args meth c) (Y : Wd g s σ H locs) (hk : kd k = 23) (hin : vp_in i (ln k)) (hdg : decode cc pc = .ok (.aaload, 1))
    (kk : W p l e (rmm a b) s m args below meth c H locs 0 0 Q (F0 m (pc + 1) ls (.ref (g.2.2 (22 + 7 * i.toNatClampNeg)) :: rest))) : W p l e (rmm a b) s m args below meth c H locs 0 0 Q (F0 m pc ls (.int i :: .ref (g.2.2 k) :: rest)) := by
  obtain ⟨hx, hb, hml, hr, hown, hts, hK, hG, hlk⟩ := X
  have he : (wld g σ)[k]? = some (g.2.2 k, .inl (g.2.1 3, ln k, .inr (.inr (.inr (.inr (fun i => some (g.2.2 (22 + 7 * i)))))))) := by rw [wld_get (kd_lt hk (by omega)), ent_shops hk]
  exact va_aldq hx hb hK Y.1 k 3 he (tys_get (by omega)) hin hdg kk
theorem gvQ {r : Option Nat} (X : Cx g own cc nL rt p s m args meth c) (Y : Wd g s σ H locs) (hM : CtQ l y cc' nL' rt' (rmm a' b') g (.ref (g.2.2 k) :: As) σ r) (B : CBV own idx y cc' nL' rt' n ci) (hk : kd k = ci) (hls : ls.size = nL) (hn : As.length = n) (hst : st0 = As.reverse ++ .ref (g.2.2 k) :: rest) (hW : (rest.map fun v => v.category).sum ≤ 8) (hR : a' + 1 ≤ a ∧ 8 + (nL' + 11) + b' ≤ b) (hdg : decode cc pc = .ok (.invokevirtual idx, 3))
    (kk : ∀ (H1 : Heap) (locs1 : List Loc), Wd g s σ H1 locs1 → W p l e (rmm a b) s m args below meth c H1 locs1 0 0 Q (F0 m (pc + 3) ls (va_rf (r.map g.2.2) :: rest))) : W p l e (rmm a b) s m args below meth c H locs 0 0 Q (F0 m pc ls st0) := by
  obtain ⟨hx, hb, hml, hr, hown, hts, hK, hG, hlk⟩ := X
  obtain ⟨hP, hS⟩ := Y
  obtain ⟨⟨b1, b2, b3, b4, b5, b6⟩, b7, b8, T, N, ty0, bC⟩ := id B
  have he : (wld g σ)[k]? = some (g.2.2 k, .inr (ci, (List.range (nf ci)).map (fvc ci g.2.2 σ k))) := by rw [wld_get (kd_lt hk (Nat.lt_trans bC.2.2.1 (by decide))), ent_obj hk bC.2.2.1]
  refine va_callq (A1 := GA g H.size) (A0 := GA g s.heap.size) (H0 := s.heap) (va_runV (As := As) (rest := rest) ⟨hx, hb, hml, hown, hts⟩ (hM hG H.size) (cwV n hts (goodV B) rfl rfl rfl ⟨rfl, b4, b5, b6⟩ hR) ⟨pre_blind, va_recv hK hP bC.1 he, fun U hU hW => ⟨rfl, by rw [hU], by rw [hU]; exact hP, va_K.moved hW.alike hK, hlk.2.warm hW⟩⟩ rfl hn hls hst (lv_room hW) hdg ⟨Nat.le_refl _, Nat.le_refl _⟩) hS (fun q _ h => ga_up hS.1 q h) (fun q h => ga_up hS.1 q h) (fun r u t H1 locs1 ht hvm hw hB hz hk hS1 => ?_)
  rw [ht] at hB
  subst hw
  exact kk H1 locs1 ⟨hB, hS1⟩
theorem enQ {r : Option Nat} (ty : FieldType) (hy : plainName y.cls = true) (hrt : rt = some ty) (hty : (∃ n, ty = .object n) ∨ ∃ t, ty = .array t) (hl : (lg_sl As).length ≤ nL)
    (body : ∀ (p : Program) (e : Env) (s : State) (m : MethodId) (args : Array Value) (below : List Frame) (meth : Method) (c : Code) (Q : State → Prop), Cx g y.cls cc nL rt p s m args meth c → Wd g s σ s.heap [] → ∀ ls, lv_has ls nL (lv_args 0 As) →
      (∀ (H : Heap) (locs : List Loc) (ls : Array Slot) (pc : Nat), Wd g s σ H locs → decode cc pc = .ok (.areturn, 1) → W p l e (rmm a b) s m args below meth c H locs 0 0 Q (F0 m pc ls [va_rf (r.map g.2.2)])) →
      W p l e (rmm a b) s m args below meth c s.heap [] 0 0 Q (F0 m 0 ls [])) : CtQ l y cc nL rt (rmm a b) g As σ r := by
  intro hG sz
  refine Met.ofW (cc := cc) (maxL := nL) (ret := rt) hy rfl ?_
  intro p e s m args below meth c s₁ B hml hv
  obtain ⟨rfl, hsz, hP, hK, hN⟩ := hv
  have hx := B.exec
  have hb := B.bytes
  have hr := B.returns
  have hts := atoms_spec (ws := Cond.code y cc nL rt :: W0) B.pre
  have hown : s.vm.findClass y.cls = some m.cls := findClass_of_methodNamed B.named
  have hlocks := B.notSynchronized
  subst hsz
  have hl := lv_entry As (n := nL) hl
  rw [lg_entry_eq]
  generalize (lg_sl As ++ List.replicate (nL - (lg_sl As).length) Slot.unset).toArray = ls at hl ⊢
  refine body p e s m As.toArray below meth c _ ⟨hx, hb, hml, hr, hown, fun w h => hts w (List.mem_cons_of_mem _ h), hK, hG, hlocks, hN⟩ ⟨hP, va_S.rf⟩ ls hl ?_
  intro H locs ls pc hY hd
  refine W.aret (rt := ty) (v := va_rf (r.map g.2.2)) hx hb (hr.trans hrt) hty ?_ (fun t ht hW => ⟨⟨r.map g.2.2, (), rfl, rfl, by show va_P g.1 vwCl (wld g σ) t.heap; rw [ht]; exact hY.1⟩, hY.2.F ht⟩) hY.2.2.2 hd hlocks
  cases r with
  | none => exact Or.inl rfl
  | some v => exact Or.inr ⟨g.2.2 v, rfl⟩
end GQ
