/-! THE WORLD: 124 cells in fixed places, all that changes is whole numbers: a state is what each cell holds at each place -/
abbrev St : Type := Nat → Nat → Int32
def upA (σ : St) (k : Nat) (f : Nat → Int32) : St := fun a => if a = k then f else σ a
def up (σ : St) (k j : Nat) (v : Int32) : St := upA σ k (upd (σ k) j v)
def kdL : List Nat := [11, 9, 10, 20, 10, 20, 10, 20, 9, 10, 20, 10, 20, 10, 20, 9, 10, 20, 10, 20, 10, 20, 9, 10, 20, 10, 20, 10, 20, 9, 10, 20, 10, 20, 10, 20, 9, 10, 20, 10, 20, 10, 20, 9, 10, 20, 10, 20, 10, 20, 9, 10, 20, 10, 20, 10, 20, 9, 10, 20, 10, 20, 10, 20, 9, 10, 20, 10, 20, 10, 20, 9, 10, 20, 10, 20, 10, 20, 4, 23, 2, 20, 20, 2, 20, 20, 3, 8, 3, 5, 20, 20, 6, 20, 20, 20, 20, 20, 20, 7, 21, 12, 20, 20, 20, 20, 20, 20, 20, 20, 20, 20, 20, 20, 20, 22, 20, 20, 20, 20, 20, 20, 24, 25]
def kd (k : Nat) : Nat := kdL.getD k 99
def lnL : List Nat := [0, 0, 0, 618, 0, 72, 0, 100, 0, 0, 618, 0, 72, 0, 100, 0, 0, 618, 0, 72, 0, 100, 0, 0, 618, 0, 72, 0, 100, 0, 0, 618, 0, 72, 0, 100, 0, 0, 618, 0, 72, 0, 100, 0, 0, 618, 0, 72, 0, 100, 0, 0, 618, 0, 72, 0, 100, 0, 0, 618, 0, 72, 0, 100, 0, 0, 618, 0, 72, 0, 100, 0, 0, 618, 0, 72, 0, 100, 0, 8, 0, 3, 3, 0, 3, 3, 0, 0, 0, 0, 100, 100, 0, 20, 20, 20, 20, 20, 4608, 0, 70, 0, 761, 761, 761, 6088, 70, 3, 3, 3, 3, 100, 100, 3, 3, 100, 20, 20, 20, 20, 5120, 2, 1, 1]
def ln (k : Nat) : Nat := lnL.getD k 0
def nfL : List Nat := [3, 3, 3, 3, 3, 11, 9, 15, 6, 3, 3, 12, 48]
def nf (c : Nat) : Nat := nfL.getD c 0
/-- which cell a field points to: at an offset from its object, or a fixed one -/
def rfL : List (List (Option (Bool × Nat))) := [[], [], [some (true, 1), some (true, 2), none], [none, none, none], [some (false, 79), none, none], [some (false, 90), some (false, 91), none, none, none, none, none, none, none, none, none], [some (false, 93), some (false, 94), some (false, 95), some (false, 96), some (false, 97), some (false, 98), none, none, none], [some (false, 100), none, none, none, none, none, none, none, none, none, none, none, none, none, none], [some (false, 88), none, none, none, none, none], [some (true, 1), some (true, 3), some (true, 5)], [none, some (true, 1), none], [some (false, 1), some (false, 8), some (false, 15), some (false, 78), some (false, 80), some (false, 83), some (false, 86), some (false, 87), some (false, 89), some (false, 92), some (false, 99), none], [none, some (false, 102), some (false, 103), some (false, 104), some (false, 105), none, none, some (false, 106), none, some (false, 107), some (false, 108), some (false, 109), some (false, 110), none, none, some (false, 111), some (false, 112), none, some (false, 113), some (false, 114), none, some (false, 115), none, none, none, none, none, none, none, none, none, some (false, 116), some (false, 117), some (false, 118), some (false, 119), none, none, some (false, 120), none, none, none, none, none, none, none, none, none, some (false, 121)]]
def rfo (c j : Nat) : Option (Bool × Nat) := (rfL.getD c []).getD j none
def fvc (c : Nat) (ad : Nat → Nat) (σ : St) (k j : Nat) : Value := match rfo c j with
  | none => .int (σ k j)
  | some (true, d) => .ref (ad (k + d))
  | some (false, d) => .ref (ad d)
abbrev Geo : Type := va_G × (Nat → ClassId) × (Nat → Nat)
def ent (g : Geo) (σ : St) (k : Nat) : va_E :=
  if kd k < 20 then .inr (kd k, (List.range (nf (kd k))).map (fvc (kd k) g.2.2 σ k))
  else if kd k = 23 then .inl (g.2.1 3, ln k, .inr (.inr (.inr (.inr (fun i => some (g.2.2 (22 + 7 * i)))))))
  else if kd k = 24 then .inl (g.2.1 4, ln k, .inr (.inl (fun i => (σ k i).toInt64)))
  else if kd k = 25 then .inl (g.2.1 5, ln k, .inr (.inr (.inr (.inl (fun i => FP.f2d (σ k i).toUInt32)))))
  else .inl (g.2.1 (kd k - 20), ln k, .inl (σ k))
def wld (g : Geo) (σ : St) : va_W := (List.range 124).map (fun k => (g.2.2 k, ent g σ k))
def tyt (i : Nat) : FieldType := if i = 0 then .int else if i = 1 then .char else if i = 2 then .boolean else if i = 4 then .long else if i = 5 then .double else .object "SheetNester$Shop"
def tys (g : Geo) : List (ClassId × FieldType) := (List.range 6).map (fun i => (g.2.1 i, tyt i))
def GA (g : Geo) (sz : Nat) : Nat → Prop := fun q => (∃ k, k < 124 ∧ g.2.2 k = q) ∨ sz ≤ q
def Gok (g : Geo) : Prop := ∀ i j, i < 124 → j < 124 → g.2.2 i = g.2.2 j → i = j
theorem kd_lt {k c : Nat} (h : kd k = c) (hc : c < 99) : k < 124 := by
  rcases Nat.lt_or_ge k 124 with q | q
  · exact q
  · have e : kdL.length = 124 := rfl
    have : kd k = 99 := by unfold kd; rw [List.getD_eq_getElem?_getD, List.getElem?_eq_none (by rw [e]; exact q)]; rfl
    omega
theorem wld_get {g : Geo} {σ : St} {k : Nat} (h : k < 124) : (wld g σ)[k]? = some (g.2.2 k, ent g σ k) := by
  unfold wld
  rw [List.getElem?_map, List.getElem?_range h]
  rfl
theorem tys_get {g : Geo} {i : Nat} (h : i < 6) : (tys g)[i]? = some (g.2.1 i, tyt i) := by
  unfold tys
  rw [List.getElem?_map, List.getElem?_range h]
  rfl
theorem ent_obj {g : Geo} {σ : St} {k c : Nat} (h : kd k = c) (hc : c < 20) : ent g σ k = .inr (c, (List.range (nf c)).map (fvc c g.2.2 σ k)) := by
  unfold ent
  rw [h, if_pos hc]
theorem ent_arr {g : Geo} {σ : St} {k i : Nat} (h : kd k = 20 + i) (hi : i < 3) : ent g σ k = .inl (g.2.1 i, ln k, .inl (σ k)) := by
  unfold ent
  rw [h, if_neg (by omega), if_neg (by omega), if_neg (by omega), if_neg (by omega), Nat.add_sub_cancel_left]
theorem ent_shops {g : Geo} {σ : St} {k : Nat} (h : kd k = 23) : ent g σ k = .inl (g.2.1 3, ln k, .inr (.inr (.inr (.inr (fun i => some (g.2.2 (22 + 7 * i))))))) := by
  unfold ent
  rw [h]
  rfl
theorem wld_len (g : Geo) (σ : St) : (wld g σ).length = 124 := by simp [wld]
theorem upA_same (σ : St) (k : Nat) (f : Nat → Int32) : upA σ k f k = f := by simp [upA]
theorem upA_ne (σ : St) {k a : Nat} (f : Nat → Int32) (h : a ≠ k) : upA σ k f a = σ a := by simp [upA, h]
theorem ent_same {g : Geo} {σ τ : St} {k : Nat} (h : σ k = τ k) : ent g σ k = ent g τ k := by
  unfold ent
  rw [h]
  split
  · congr 2
    apply List.map_congr_left
    intro j _
    simp only [fvc, h]
  · split
    · rfl
    · rfl
theorem wld_set {g : Geo} {σ : St} {k : Nat} {f : Nat → Int32} {e : va_E} (hk : k < 124) (he : ent g (upA σ k f) k = e) : (wld g σ).set k (g.2.2 k, e) = wld g (upA σ k f) := by
  apply List.ext_getElem?
  intro i
  rcases Nat.lt_or_ge i 124 with hi | hi
  · rw [wld_get hi]
    by_cases hik : i = k
    · subst hik
      rw [List.getElem?_set_self (by rw [wld_len]; exact hi), he]
    · rw [List.getElem?_set_ne (by omega), wld_get hi, ent_same (upA_ne σ f hik)]
  · rw [List.getElem?_eq_none (by rw [List.length_set, wld_len]; exact hi), List.getElem?_eq_none (by rw [wld_len]; exact hi)]
theorem wld_setO {g : Geo} {σ : St} {k c j : Nat} {v : Int32} (h : kd k = c) (hc : c < 20) (hr : rfo c j = none) (hj : j < nf c) :
    (wld g σ).set k (g.2.2 k, .inr (c, ((List.range (nf c)).map (fvc c g.2.2 σ k)).set j (.int v))) = wld g (up σ k j v) := by
  refine wld_set (kd_lt h (by omega)) ?_
  rw [ent_obj h hc]
  congr 2
  apply List.ext_getElem?
  intro i
  rcases Nat.lt_or_ge i (nf c) with hi | hi
  · by_cases hij : i = j
    · subst hij
      rw [List.getElem?_set_self (by simpa using hi), List.getElem?_map, List.getElem?_range hi]
      simp [fvc, hr, upA_same, upd]
    · rw [List.getElem?_set_ne (by omega), List.getElem?_map, List.getElem?_map, List.getElem?_range hi]
      simp [fvc, upA_same, upd, hij]
  · rw [List.getElem?_eq_none (by simpa using hi), List.getElem?_eq_none (by simpa using hi)]
theorem wld_setA {g : Geo} {σ : St} {k i : Nat} {f : Nat → Int32} (h : kd k = 20 + i) (hi : i < 3) : (wld g σ).set k (g.2.2 k, .inl (g.2.1 i, ln k, .inl f)) = wld g (upA σ k f) :=
  wld_set (kd_lt h (by omega)) (by rw [ent_arr h hi, upA_same])
theorem ent_long {g : Geo} {σ : St} {k : Nat} (h : kd k = 24) : ent g σ k = .inl (g.2.1 4, ln k, .inr (.inl (fun i => (σ k i).toInt64))) := by
  unfold ent
  rw [h]
  rfl
theorem ent_dbl {g : Geo} {σ : St} {k : Nat} (h : kd k = 25) : ent g σ k = .inl (g.2.1 5, ln k, .inr (.inr (.inr (.inl (fun i => FP.f2d (σ k i).toUInt32))))) := by
  unfold ent
  rw [h]
  rfl
theorem wld_D {g : Geo} (hg : Gok g) (σ : St) (sz : Nat) : va_D (GA g sz) (wld g σ) := by
  have key : ∀ (i : Nat) (p : Nat × va_E), (wld g σ)[i]? = some p → i < 124 ∧ p.1 = g.2.2 i := by
    intro i p h
    rcases Nat.lt_or_ge i 124 with hi | hi
    · rw [wld_get hi] at h
      cases h
      exact ⟨hi, rfl⟩
    · rw [List.getElem?_eq_none (by rw [wld_len]; exact hi)] at h
      cases h
  refine ⟨fun i j p q h1 h2 h3 => ?_, fun k q h => ?_⟩
  · obtain ⟨a1, a2⟩ := key i p h1
    obtain ⟨b1, b2⟩ := key j q h2
    exact hg i j a1 b1 (by rw [← a2, ← b2]; exact h3)
  · obtain ⟨a1, a2⟩ := key k q h
    exact Or.inl ⟨k, a1, a2.symm⟩
/-- a class as the tables have it: its number, its fields, their types, its words -/
def CL (c : Nat) (C : String) (T : u_T) (N : Nat) (ty0 : Nat → FieldType) : Prop :=
  vwCl[c]? = some (C, T, N) ∧ N = nf c ∧ c < 20 ∧ (∀ w ∈ u_ws C T N, w ∈ W0) ∧ (∀ k, k < N → parseFieldDescriptor (T k).2.2.1 = some (ty0 k)) ∧ (∀ a, a < N → ∀ b, b < N → a ≠ b → (T a).2.1 ≠ (T b).2.1)
def FL (own : String) (idx c j : Nat) : Prop := ∃ C T N ty0, CL c C T N ty0 ∧ j < N ∧ Cond.fieldLink own idx (T j).1 (T j).2.1 (T j).2.2.1 ∈ W0
def FP (own : String) (idx c j : Nat) (ty : FieldType) : Prop := ∃ C T N ty0, CL c C T N ty0 ∧ j < N ∧ Cond.fieldLink own idx (T j).1 (T j).2.1 (T j).2.2.1 ∈ W0 ∧ (T j).2.2.2 = false ∧ ty0 j = ty ∧ rfo c j = none
def nar (ty : FieldType) (x : Int32) : Prop := narrow ty (.int x) = .int x ∧ fits ty (.int x) = true
theorem nar_int (x : Int32) : nar .int x := ⟨rfl, rfl⟩
/-- links between nest mates -/
def NWs (U : State) : Prop := (∀ q ∈ NFl, va_Nw (.fieldLinkNest q.1 q.2.1 q.2.2.1 q.2.2.2.1 q.2.2.2.2 "SheetNester") U) ∧ (∀ q ∈ NMl, va_Nw (.methodLinkNest q.1 q.2.1 q.2.2 "SheetNester") U)
theorem NWs.same {u U : State} (h : u.vm = U.vm) (k : NWs u) : NWs U := ⟨fun q hq => va_Nw.same rfl h (k.1 q hq), fun q hq => va_Nw.same rfl h (k.2 q hq)⟩
theorem NWs.warm {s U : State} (hW : s.WarmedH U.vm) (k : NWs s) : NWs U := ⟨fun q hq => va_Nw.warmF hW (k.1 q hq), fun q hq => va_Nw.warmM hW (k.2 q hq)⟩
def FLN (own : String) (idx c j : Nat) : Prop := ∃ C T N ty0, CL c C T N ty0 ∧ j < N ∧ (own, idx, (T j).1, (T j).2.1, (T j).2.2.1) ∈ NFl
/-- what holds all along in a method's body: the machine, the code, the words, the classes -/
def Cx (g : Geo) (own : String) (cc : ByteArray) (nL : Nat) (rt : Option FieldType) (p : Program) (s : State) (m : MethodId) (args : Array Value) (meth : Method) (c : Code) : Prop :=
  p.tables.exec = Jvm.exec ∧ c.code = cc ∧ c.maxLocals = nL ∧ meth.sig.returnType = rt ∧ s.vm.findClass own = some m.cls ∧ (∀ w ∈ W0, w.before args s = true) ∧ va_K g.1 vwCl (tys g) s ∧ Gok g ∧ meth.locks = false ∧ NWs s
def Wd (g : Geo) (s : State) (σ : St) (H : Heap) (locs : List Loc) : Prop := va_P g.1 vwCl (wld g σ) H ∧ va_S (GA g s.heap.size) s.heap H locs
section GW
variable {p : Program} {l : Launch} {e : Env} {R : Room} {s : State} {m : MethodId} {args : Array Value} {below : List Frame} {meth : Method} {c : Code} {H : Heap} {locs : List Loc} {cells slots : Nat} {Q : State → Prop}
variable {g : Geo} {own : String} {cc : ByteArray} {nL : Nat} {rt : Option FieldType} {σ : St} {pc : Nat} {ls : Array Slot} {rest : List Value}
theorem gg {k ci j idx : Nat} {v : Value} (X : Cx g own cc nL rt p s m args meth c) (Y : Wd g s σ H locs) (F : FL own idx ci j) (hk : kd k = ci) (hv : fvc ci g.2.2 σ k j = v) (hdg : decode cc pc = .ok (.getfield idx, 3))
    (kk : W p l e R s m args below meth c H locs cells slots Q (F0 m (pc + 3) ls (v :: rest))) : W p l e R s m args below meth c H locs cells slots Q (F0 m pc ls (.ref (g.2.2 k) :: rest)) := by
  obtain ⟨hx, hb, hml, hr, hown, hts, hK, hG, hlk⟩ := X
  obtain ⟨C, T, N, ty0, ⟨f1, f2, f3, f4, f5, f6⟩, hj, hl⟩ := F
  have he : (wld g σ)[k]? = some (g.2.2 k, .inr (ci, (List.range (nf ci)).map (fvc ci g.2.2 σ k))) := by rw [wld_get (kd_lt hk (by omega)), ent_obj hk f3]
  have hv' : ((List.range (nf ci)).map (fvc ci g.2.2 σ k))[j]? = some v := by rw [List.getElem?_map, List.getElem?_range (by omega)]; exact congrArg some hv
  exact va_get hx hb hts f4 hown hK Y.1 k he f1 j hj (hts _ hl) (fun _ h => h) hv' hdg kk
theorem ggN {k ci j idx : Nat} {v : Value} (X : Cx g own cc nL rt p s m args meth c) (Y : Wd g s σ H locs) (F : FLN own idx ci j) (hk : kd k = ci) (hv : fvc ci g.2.2 σ k j = v) (hdg : decode cc pc = .ok (.getfield idx, 3))
    (kk : W p l e R s m args below meth c H locs cells slots Q (F0 m (pc + 3) ls (v :: rest))) : W p l e R s m args below meth c H locs cells slots Q (F0 m pc ls (.ref (g.2.2 k) :: rest)) := by
  obtain ⟨hx, hb, hml, hr, hown, hts, hK, hG, hlk, hN⟩ := X
  obtain ⟨C, T, N, ty0, ⟨f1, f2, f3, f4, f5, f6⟩, hj, hl⟩ := F
  have he : (wld g σ)[k]? = some (g.2.2 k, .inr (ci, (List.range (nf ci)).map (fvc ci g.2.2 σ k))) := by rw [wld_get (kd_lt hk (by omega)), ent_obj hk f3]
  have hv' : ((List.range (nf ci)).map (fvc ci g.2.2 σ k))[j]? = some v := by rw [List.getElem?_map, List.getElem?_range (by omega)]; exact congrArg some hv
  exact va_getN hx hb hts f4 hown hK Y.1 k he f1 j hj (va_Nw.use rfl (hN.1 _ hl)) (fun _ h => h) hv' hdg kk
theorem gp {k ci j idx : Nat} {ty : FieldType} {v : Int32} (X : Cx g own cc nL rt p s m args meth c) (Y : Wd g s σ H locs) (F : FP own idx ci j ty) (hk : kd k = ci) (hn : nar ty v) (hdg : decode cc pc = .ok (.putfield idx, 3))
    (kk : ∀ (H1 : Heap) (locs1 : List Loc), Wd g s (up σ k j v) H1 locs1 → W p l e R s m args below meth c H1 locs1 cells slots Q (F0 m (pc + 3) ls rest)) : W p l e R s m args below meth c H locs cells slots Q (F0 m pc ls (.int v :: .ref (g.2.2 k) :: rest)) := by
  obtain ⟨hx, hb, hml, hr, hown, hts, hK, hG, hlk⟩ := X
  obtain ⟨C, T, N, ty0, ⟨f1, f2, f3, f4, f5, f6⟩, hj, hl, hfin, hty, hrf⟩ := F
  have he : (wld g σ)[k]? = some (g.2.2 k, .inr (ci, (List.range (nf ci)).map (fvc ci g.2.2 σ k))) := by rw [wld_get (kd_lt hk (by omega)), ent_obj hk f3]
  refine va_put hx hb hts f4 ty0 f5 f6 hown hK Y.1 (wld_D hG σ _) Y.2 k he f1 j hj (hts _ hl) (fun _ h => h) hfin (f5 j hj) (by rw [hty]; exact hn.1) (by rw [hty]; exact hn.2) (by simp; omega) hdg (fun H1 locs1 hP hD hS => ?_)
  rw [wld_setO hk f3 hrf (by omega)] at hP
  exact kk H1 locs1 ⟨hP, hS⟩
theorem gal {k i : Nat} {v : Int32} (X : Cx g own cc nL rt p s m args meth c) (Y : Wd g s σ H locs) (hk : kd k = 20 + i) (hi : i < 3) (hv : Int32.ofNat (ln k) = v) (hdg : decode cc pc = .ok (.arraylength, 1))
    (kk : W p l e R s m args below meth c H locs cells slots Q (F0 m (pc + 1) ls (.int v :: rest))) : W p l e R s m args below meth c H locs cells slots Q (F0 m pc ls (.ref (g.2.2 k) :: rest)) := by
  obtain ⟨hx, hb, hml, hr, hown, hts, hK, hG, hlk⟩ := X
  have he : (wld g σ)[k]? = some (g.2.2 k, .inl (g.2.1 i, ln k, .inl (σ k))) := by rw [wld_get (kd_lt hk (by omega)), ent_arr hk hi]
  exact va_alen hx hb hK Y.1 k i he (tys_get (by omega)) hv hdg kk
theorem gil {k : Nat} {i : Int32} (X : Cx g own cc nL rt p s m args meth c) (Y : Wd g s σ H locs) (hk : kd k = 20) (hin : vp_in i (ln k)) (hdg : decode cc pc = .ok (.iaload, 1))
    (kk : W p l e R s m args below meth c H locs cells slots Q (F0 m (pc + 1) ls (.int (σ k i.toNatClampNeg) :: rest))) : W p l e R s m args below meth c H locs cells slots Q (F0 m pc ls (.int i :: .ref (g.2.2 k) :: rest)) := by
  obtain ⟨hx, hb, hml, hr, hown, hts, hK, hG, hlk⟩ := X
  have he : (wld g σ)[k]? = some (g.2.2 k, .inl (g.2.1 0, ln k, .inl (σ k))) := by rw [wld_get (kd_lt hk (by omega)), ent_arr (i := 0) hk (by omega)]
  exact va_iald hx hb hK Y.1 k 0 he (tys_get (by omega)) hin hdg kk
theorem gcl {k : Nat} {i : Int32} (X : Cx g own cc nL rt p s m args meth c) (Y : Wd g s σ H locs) (hk : kd k = 21) (hin : vp_in i (ln k)) (hdg : decode cc pc = .ok (.caload, 1))
    (kk : W p l e R s m args below meth c H locs cells slots Q (F0 m (pc + 1) ls (.int (σ k i.toNatClampNeg) :: rest))) : W p l e R s m args below meth c H locs cells slots Q (F0 m pc ls (.int i :: .ref (g.2.2 k) :: rest)) := by
  obtain ⟨hx, hb, hml, hr, hown, hts, hK, hG, hlk⟩ := X
  have he : (wld g σ)[k]? = some (g.2.2 k, .inl (g.2.1 1, ln k, .inl (σ k))) := by rw [wld_get (kd_lt hk (by omega)), ent_arr (i := 1) hk (by omega)]
  exact va_cald hx hb hK Y.1 k 1 he (tys_get (by omega)) hin hdg kk
theorem gzl {k : Nat} {i : Int32} (X : Cx g own cc nL rt p s m args meth c) (Y : Wd g s σ H locs) (hk : kd k = 22) (hin : vp_in i (ln k)) (hdg : decode cc pc = .ok (.baload, 1))
    (kk : W p l e R s m args below meth c H locs cells slots Q (F0 m (pc + 1) ls (.int (σ k i.toNatClampNeg) :: rest))) : W p l e R s m args below meth c H locs cells slots Q (F0 m pc ls (.int i :: .ref (g.2.2 k) :: rest)) := by
  obtain ⟨hx, hb, hml, hr, hown, hts, hK, hG, hlk⟩ := X
  have he : (wld g σ)[k]? = some (g.2.2 k, .inl (g.2.1 2, ln k, .inl (σ k))) := by rw [wld_get (kd_lt hk (by omega)), ent_arr (i := 2) hk (by omega)]
  exact va_zald hx hb hK Y.1 k 2 he (tys_get (by omega)) hin hdg kk
theorem gis {k : Nat} {i x : Int32} (X : Cx g own cc nL rt p s m args meth c) (Y : Wd g s σ H locs) (hk : kd k = 20) (hin : vp_in i (ln k)) (hdg : decode cc pc = .ok (.iastore, 1))
    (kk : ∀ (H1 : Heap) (locs1 : List Loc), Wd g s (up σ k i.toNatClampNeg x) H1 locs1 → W p l e R s m args below meth c H1 locs1 cells slots Q (F0 m (pc + 1) ls rest)) : W p l e R s m args below meth c H locs cells slots Q (F0 m pc ls (.int x :: .int i :: .ref (g.2.2 k) :: rest)) := by
  obtain ⟨hx, hb, hml, hr, hown, hts, hK, hG, hlk⟩ := X
  have he : (wld g σ)[k]? = some (g.2.2 k, .inl (g.2.1 0, ln k, .inl (σ k))) := by rw [wld_get (kd_lt hk (by omega)), ent_arr (i := 0) hk (by omega)]
  refine va_iast hx hb hK Y.1 (wld_D hG σ _) Y.2 k 0 he (tys_get (by omega)) hin hdg (fun H1 locs1 hP hD hS => ?_)
  rw [wld_setA (i := 0) hk (by omega)] at hP
  exact kk H1 locs1 ⟨hP, hS⟩
theorem gcs {k : Nat} {i x : Int32} (X : Cx g own cc nL rt p s m args meth c) (Y : Wd g s σ H locs) (hk : kd k = 21) (hin : vp_in i (ln k)) (hdg : decode cc pc = .ok (.castore, 1))
    (kk : ∀ (H1 : Heap) (locs1 : List Loc), Wd g s (up σ k i.toNatClampNeg (vp_nar .char x)) H1 locs1 → W p l e R s m args below meth c H1 locs1 cells slots Q (F0 m (pc + 1) ls rest)) : W p l e R s m args below meth c H locs cells slots Q (F0 m pc ls (.int x :: .int i :: .ref (g.2.2 k) :: rest)) := by
  obtain ⟨hx, hb, hml, hr, hown, hts, hK, hG, hlk⟩ := X
  have he : (wld g σ)[k]? = some (g.2.2 k, .inl (g.2.1 1, ln k, .inl (σ k))) := by rw [wld_get (kd_lt hk (by omega)), ent_arr (i := 1) hk (by omega)]
  refine va_cast hx hb hK Y.1 (wld_D hG σ _) Y.2 k 1 he (tys_get (by omega)) hin hdg (fun H1 locs1 hP hD hS => ?_)
  rw [wld_setA (i := 1) hk (by omega)] at hP
  exact kk H1 locs1 ⟨hP, hS⟩
theorem gzs {k : Nat} {i x : Int32} (X : Cx g own cc nL rt p s m args meth c) (Y : Wd g s σ H locs) (hk : kd k = 22) (hin : vp_in i (ln k)) (hdg : decode cc pc = .ok (.bastore, 1))
    (kk : ∀ (H1 : Heap) (locs1 : List Loc), Wd g s (up σ k i.toNatClampNeg (vp_nar .boolean x)) H1 locs1 → W p l e R s m args below meth c H1 locs1 cells slots Q (F0 m (pc + 1) ls rest)) : W p l e R s m args below meth c H locs cells slots Q (F0 m pc ls (.int x :: .int i :: .ref (g.2.2 k) :: rest)) := by
  obtain ⟨hx, hb, hml, hr, hown, hts, hK, hG, hlk⟩ := X
  have he : (wld g σ)[k]? = some (g.2.2 k, .inl (g.2.1 2, ln k, .inl (σ k))) := by rw [wld_get (kd_lt hk (by omega)), ent_arr (i := 2) hk (by omega)]
  refine va_zast hx hb hK Y.1 (wld_D hG σ _) Y.2 k 2 he (tys_get (by omega)) hin hdg (fun H1 locs1 hP hD hS => ?_)
  rw [wld_setA (i := 2) hk (by omega)] at hP
  exact kk H1 locs1 ⟨hP, hS⟩
end GW

theorem cl_X0 : CL 2 RX0 TX0 3 tyX0 := ⟨rfl, rfl, by decide, mwl 43 rfl, tyX0_ok, nmX0⟩
theorem cl_X1 : CL 3 RX1 TX1 3 tyX1 := ⟨rfl, rfl, by decide, mwl 44 rfl, tyX1_ok, nmX1⟩
theorem cl_X2 : CL 4 RX2 TX2 3 tyX2 := ⟨rfl, rfl, by decide, mwl 45 rfl, tyX2_ok, nmX2⟩
theorem cl_X4 : CL 5 RX4 TX4 11 tyX4 := ⟨rfl, rfl, by decide, mwl 46 rfl, tyX4_ok, nmX4⟩
theorem cl_X5 : CL 6 RX5 TX5 9 tyX5 := ⟨rfl, rfl, by decide, mwl 47 rfl, tyX5_ok, nmX5⟩
theorem cl_X6 : CL 7 RX6 TX6 15 tyX6 := ⟨rfl, rfl, by decide, mwl 48 rfl, tyX6_ok, nmX6⟩
theorem cl_X7 : CL 8 RX7 TX7 6 tyX7 := ⟨rfl, rfl, by decide, mwl 49 rfl, tyX7_ok, nmX7⟩
theorem cl_X8 : CL 9 RX8 TX8 3 tyX8 := ⟨rfl, rfl, by decide, mwl 50 rfl, tyX8_ok, nmX8⟩
theorem cl_X9 : CL 10 RX9 TX9 3 tyX9 := ⟨rfl, rfl, by decide, mwl 51 rfl, tyX9_ok, nmX9⟩
theorem cl_X10 : CL 11 RX10 TX10 12 tyX10 := ⟨rfl, rfl, by decide, mwl 52 rfl, tyX10_ok, nmX10⟩
theorem cl_X11 : CL 12 RX11 TX11 48 tyX11 := ⟨rfl, rfl, by decide, mwl 53 rfl, tyX11_ok, nmX11⟩
theorem fl_X10_12 : FL RX10 12 11 0 := ⟨RX10, TX10, 12, tyX10, cl_X10, by decide, mw 0 17 rfl rfl⟩
theorem fl_X10_16 : FL RX10 16 11 1 := ⟨RX10, TX10, 12, tyX10, cl_X10, by decide, mw 0 18 rfl rfl⟩
theorem fl_X10_19 : FL RX10 19 11 2 := ⟨RX10, TX10, 12, tyX10, cl_X10, by decide, mw 0 19 rfl rfl⟩
theorem fl_X10_25 : FL RX10 25 11 3 := ⟨RX10, TX10, 12, tyX10, cl_X10, by decide, mw 0 23 rfl rfl⟩
theorem fl_X10_32 : FL RX10 32 11 4 := ⟨RX10, TX10, 12, tyX10, cl_X10, by decide, mw 0 27 rfl rfl⟩
theorem fl_X10_36 : FL RX10 36 11 5 := ⟨RX10, TX10, 12, tyX10, cl_X10, by decide, mw 0 28 rfl rfl⟩
theorem fl_X10_42 : FL RX10 42 11 6 := ⟨RX10, TX10, 12, tyX10, cl_X10, by decide, mw 1 0 rfl rfl⟩
theorem fl_X10_49 : FL RX10 49 11 7 := ⟨RX10, TX10, 12, tyX10, cl_X10, by decide, mw 1 4 rfl rfl⟩
theorem fl_X10_56 : FL RX10 56 11 8 := ⟨RX10, TX10, 12, tyX10, cl_X10, by decide, mw 1 8 rfl rfl⟩
theorem fl_X10_63 : FL RX10 63 11 9 := ⟨RX10, TX10, 12, tyX10, cl_X10, by decide, mw 1 12 rfl rfl⟩
theorem fl_X10_70 : FL RX10 70 11 10 := ⟨RX10, TX10, 12, tyX10, cl_X10, by decide, mw 1 16 rfl rfl⟩
theorem fl_X10_74 : FL RX10 74 11 11 := ⟨RX10, TX10, 12, tyX10, cl_X10, by decide, mw 1 17 rfl rfl⟩
theorem fp_X10_74 : FP RX10 74 11 11 .boolean := ⟨RX10, TX10, 12, tyX10, cl_X10, by decide, mw 1 17 rfl rfl, rfl, rfl, rfl⟩
theorem fl_X8_14 : FL RX8 14 9 0 := ⟨RX8, TX8, 3, tyX8, cl_X8, by decide, mw 1 25 rfl rfl⟩
theorem fl_X8_20 : FL RX8 20 9 1 := ⟨RX8, TX8, 3, tyX8, cl_X8, by decide, mw 1 26 rfl rfl⟩
theorem fl_X8_23 : FL RX8 23 9 2 := ⟨RX8, TX8, 3, tyX8, cl_X8, by decide, mw 1 27 rfl rfl⟩
theorem fl_X9_7 : FL RX9 7 10 0 := ⟨RX9, TX9, 3, tyX9, cl_X9, by decide, mw 2 0 rfl rfl⟩
theorem fl_X9_13 : FL RX9 13 10 1 := ⟨RX9, TX9, 3, tyX9, cl_X9, by decide, mw 2 2 rfl rfl⟩
theorem fl_X9_17 : FL RX9 17 10 2 := ⟨RX9, TX9, 3, tyX9, cl_X9, by decide, mw 2 3 rfl rfl⟩
theorem fp_X9_17 : FP RX9 17 10 2 .int := ⟨RX9, TX9, 3, tyX9, cl_X9, by decide, mw 2 3 rfl rfl, rfl, rfl, rfl⟩
theorem fl_X2_11 : FL RX2 11 4 0 := ⟨RX2, TX2, 3, tyX2, cl_X2, by decide, mw 2 9 rfl rfl⟩
theorem fl_X2_18 : FL RX2 18 4 1 := ⟨RX2, TX2, 3, tyX2, cl_X2, by decide, mw 2 10 rfl rfl⟩
theorem fp_X2_18 : FP RX2 18 4 1 .int := ⟨RX2, TX2, 3, tyX2, cl_X2, by decide, mw 2 10 rfl rfl, rfl, rfl, rfl⟩
theorem fl_X2_22 : FL RX2 22 4 2 := ⟨RX2, TX2, 3, tyX2, cl_X2, by decide, mw 2 11 rfl rfl⟩
theorem fp_X2_22 : FP RX2 22 4 2 .int := ⟨RX2, TX2, 3, tyX2, cl_X2, by decide, mw 2 11 rfl rfl, rfl, rfl, rfl⟩
theorem fl_X0_9 : FL RX0 9 2 0 := ⟨RX0, TX0, 3, tyX0, cl_X0, by decide, mw 2 17 rfl rfl⟩
theorem fl_X0_13 : FL RX0 13 2 1 := ⟨RX0, TX0, 3, tyX0, cl_X0, by decide, mw 2 18 rfl rfl⟩
theorem fl_X0_16 : FL RX0 16 2 2 := ⟨RX0, TX0, 3, tyX0, cl_X0, by decide, mw 2 19 rfl rfl⟩
theorem fp_X0_16 : FP RX0 16 2 2 .int := ⟨RX0, TX0, 3, tyX0, cl_X0, by decide, mw 2 19 rfl rfl, rfl, rfl, rfl⟩
theorem fl_X1_9 : FL RX1 9 3 0 := ⟨RX1, TX1, 3, tyX1, cl_X1, by decide, mw 2 24 rfl rfl⟩
theorem fp_X1_9 : FP RX1 9 3 0 .int := ⟨RX1, TX1, 3, tyX1, cl_X1, by decide, mw 2 24 rfl rfl, rfl, rfl, rfl⟩
theorem fl_X1_15 : FL RX1 15 3 1 := ⟨RX1, TX1, 3, tyX1, cl_X1, by decide, mw 2 25 rfl rfl⟩
theorem fp_X1_15 : FP RX1 15 3 1 .int := ⟨RX1, TX1, 3, tyX1, cl_X1, by decide, mw 2 25 rfl rfl, rfl, rfl, rfl⟩
theorem fl_X1_18 : FL RX1 18 3 2 := ⟨RX1, TX1, 3, tyX1, cl_X1, by decide, mw 2 26 rfl rfl⟩
theorem fp_X1_18 : FP RX1 18 3 2 .int := ⟨RX1, TX1, 3, tyX1, cl_X1, by decide, mw 2 26 rfl rfl, rfl, rfl, rfl⟩
theorem fl_X7_12 : FL RX7 12 8 0 := ⟨RX7, TX7, 6, tyX7, cl_X7, by decide, mw 3 0 rfl rfl⟩
theorem fl_X7_18 : FL RX7 18 8 1 := ⟨RX7, TX7, 6, tyX7, cl_X7, by decide, mw 3 1 rfl rfl⟩
theorem fp_X7_18 : FP RX7 18 8 1 .int := ⟨RX7, TX7, 6, tyX7, cl_X7, by decide, mw 3 1 rfl rfl, rfl, rfl, rfl⟩
theorem fl_X7_22 : FL RX7 22 8 2 := ⟨RX7, TX7, 6, tyX7, cl_X7, by decide, mw 3 2 rfl rfl⟩
theorem fp_X7_22 : FP RX7 22 8 2 .int := ⟨RX7, TX7, 6, tyX7, cl_X7, by decide, mw 3 2 rfl rfl, rfl, rfl, rfl⟩
theorem fl_X7_25 : FL RX7 25 8 3 := ⟨RX7, TX7, 6, tyX7, cl_X7, by decide, mw 3 3 rfl rfl⟩
theorem fp_X7_25 : FP RX7 25 8 3 .int := ⟨RX7, TX7, 6, tyX7, cl_X7, by decide, mw 3 3 rfl rfl, rfl, rfl, rfl⟩
theorem fl_X7_28 : FL RX7 28 8 4 := ⟨RX7, TX7, 6, tyX7, cl_X7, by decide, mw 3 4 rfl rfl⟩
theorem fp_X7_28 : FP RX7 28 8 4 .int := ⟨RX7, TX7, 6, tyX7, cl_X7, by decide, mw 3 4 rfl rfl, rfl, rfl, rfl⟩
theorem fl_X7_31 : FL RX7 31 8 5 := ⟨RX7, TX7, 6, tyX7, cl_X7, by decide, mw 3 5 rfl rfl⟩
theorem fp_X7_31 : FP RX7 31 8 5 .int := ⟨RX7, TX7, 6, tyX7, cl_X7, by decide, mw 3 5 rfl rfl, rfl, rfl, rfl⟩
theorem fl_X4_9 : FL RX4 9 5 0 := ⟨RX4, TX4, 11, tyX4, cl_X4, by decide, mw 3 11 rfl rfl⟩
theorem fl_X4_15 : FL RX4 15 5 1 := ⟨RX4, TX4, 11, tyX4, cl_X4, by decide, mw 3 12 rfl rfl⟩
theorem fl_X4_18 : FL RX4 18 5 2 := ⟨RX4, TX4, 11, tyX4, cl_X4, by decide, mw 3 13 rfl rfl⟩
theorem fp_X4_18 : FP RX4 18 5 2 .int := ⟨RX4, TX4, 11, tyX4, cl_X4, by decide, mw 3 13 rfl rfl, rfl, rfl, rfl⟩
theorem fl_X4_22 : FL RX4 22 5 3 := ⟨RX4, TX4, 11, tyX4, cl_X4, by decide, mw 3 14 rfl rfl⟩
theorem fp_X4_22 : FP RX4 22 5 3 .int := ⟨RX4, TX4, 11, tyX4, cl_X4, by decide, mw 3 14 rfl rfl, rfl, rfl, rfl⟩
theorem fl_X4_25 : FL RX4 25 5 4 := ⟨RX4, TX4, 11, tyX4, cl_X4, by decide, mw 3 15 rfl rfl⟩
theorem fp_X4_25 : FP RX4 25 5 4 .int := ⟨RX4, TX4, 11, tyX4, cl_X4, by decide, mw 3 15 rfl rfl, rfl, rfl, rfl⟩
theorem fl_X4_28 : FL RX4 28 5 5 := ⟨RX4, TX4, 11, tyX4, cl_X4, by decide, mw 3 16 rfl rfl⟩
theorem fp_X4_28 : FP RX4 28 5 5 .int := ⟨RX4, TX4, 11, tyX4, cl_X4, by decide, mw 3 16 rfl rfl, rfl, rfl, rfl⟩
theorem fl_X5_9 : FL RX5 9 6 0 := ⟨RX5, TX5, 9, tyX5, cl_X5, by decide, mw 3 21 rfl rfl⟩
theorem fl_X5_15 : FL RX5 15 6 1 := ⟨RX5, TX5, 9, tyX5, cl_X5, by decide, mw 3 22 rfl rfl⟩
theorem fl_X5_18 : FL RX5 18 6 2 := ⟨RX5, TX5, 9, tyX5, cl_X5, by decide, mw 3 23 rfl rfl⟩
theorem fl_X5_21 : FL RX5 21 6 3 := ⟨RX5, TX5, 9, tyX5, cl_X5, by decide, mw 3 24 rfl rfl⟩
theorem fl_X5_24 : FL RX5 24 6 4 := ⟨RX5, TX5, 9, tyX5, cl_X5, by decide, mw 3 25 rfl rfl⟩
theorem fl_X5_27 : FL RX5 27 6 5 := ⟨RX5, TX5, 9, tyX5, cl_X5, by decide, mw 3 26 rfl rfl⟩
theorem fl_X5_30 : FL RX5 30 6 6 := ⟨RX5, TX5, 9, tyX5, cl_X5, by decide, mw 3 27 rfl rfl⟩
theorem fp_X5_30 : FP RX5 30 6 6 .int := ⟨RX5, TX5, 9, tyX5, cl_X5, by decide, mw 3 27 rfl rfl, rfl, rfl, rfl⟩
theorem fl_X5_34 : FL RX5 34 6 7 := ⟨RX5, TX5, 9, tyX5, cl_X5, by decide, mw 3 28 rfl rfl⟩
theorem fp_X5_34 : FP RX5 34 6 7 .int := ⟨RX5, TX5, 9, tyX5, cl_X5, by decide, mw 3 28 rfl rfl, rfl, rfl, rfl⟩
theorem fl_X5_37 : FL RX5 37 6 8 := ⟨RX5, TX5, 9, tyX5, cl_X5, by decide, mw 3 29 rfl rfl⟩
theorem fp_X5_37 : FP RX5 37 6 8 .int := ⟨RX5, TX5, 9, tyX5, cl_X5, by decide, mw 3 29 rfl rfl, rfl, rfl, rfl⟩
theorem fl_X6_9 : FL RX6 9 7 0 := ⟨RX6, TX6, 15, tyX6, cl_X6, by decide, mw 4 3 rfl rfl⟩
theorem fl_X6_15 : FL RX6 15 7 1 := ⟨RX6, TX6, 15, tyX6, cl_X6, by decide, mw 4 4 rfl rfl⟩
theorem fp_X6_15 : FP RX6 15 7 1 .int := ⟨RX6, TX6, 15, tyX6, cl_X6, by decide, mw 4 4 rfl rfl, rfl, rfl, rfl⟩
theorem fl_X6_19 : FL RX6 19 7 2 := ⟨RX6, TX6, 15, tyX6, cl_X6, by decide, mw 4 5 rfl rfl⟩
theorem fp_X6_19 : FP RX6 19 7 2 .int := ⟨RX6, TX6, 15, tyX6, cl_X6, by decide, mw 4 5 rfl rfl, rfl, rfl, rfl⟩
theorem fl_X6_22 : FL RX6 22 7 3 := ⟨RX6, TX6, 15, tyX6, cl_X6, by decide, mw 4 6 rfl rfl⟩
theorem fp_X6_22 : FP RX6 22 7 3 .int := ⟨RX6, TX6, 15, tyX6, cl_X6, by decide, mw 4 6 rfl rfl, rfl, rfl, rfl⟩
theorem fl_X11_7 : FL RX11 7 12 1 := ⟨RX11, TX11, 48, tyX11, cl_X11, by decide, mw 4 11 rfl rfl⟩
theorem fl_X11_13 : FL RX11 13 12 2 := ⟨RX11, TX11, 48, tyX11, cl_X11, by decide, mw 4 12 rfl rfl⟩
theorem fl_X11_16 : FL RX11 16 12 3 := ⟨RX11, TX11, 48, tyX11, cl_X11, by decide, mw 4 13 rfl rfl⟩
theorem fl_X11_19 : FL RX11 19 12 4 := ⟨RX11, TX11, 48, tyX11, cl_X11, by decide, mw 4 14 rfl rfl⟩
theorem fl_X11_22 : FL RX11 22 12 7 := ⟨RX11, TX11, 48, tyX11, cl_X11, by decide, mw 4 15 rfl rfl⟩
theorem fl_X11_25 : FL RX11 25 12 9 := ⟨RX11, TX11, 48, tyX11, cl_X11, by decide, mw 4 16 rfl rfl⟩
theorem fl_X11_28 : FL RX11 28 12 10 := ⟨RX11, TX11, 48, tyX11, cl_X11, by decide, mw 4 17 rfl rfl⟩
theorem fl_X11_31 : FL RX11 31 12 11 := ⟨RX11, TX11, 48, tyX11, cl_X11, by decide, mw 4 18 rfl rfl⟩
theorem fl_X11_34 : FL RX11 34 12 12 := ⟨RX11, TX11, 48, tyX11, cl_X11, by decide, mw 4 19 rfl rfl⟩
theorem fl_X11_37 : FL RX11 37 12 15 := ⟨RX11, TX11, 48, tyX11, cl_X11, by decide, mw 4 20 rfl rfl⟩
theorem fl_X11_40 : FL RX11 40 12 16 := ⟨RX11, TX11, 48, tyX11, cl_X11, by decide, mw 4 21 rfl rfl⟩
theorem fl_X11_43 : FL RX11 43 12 18 := ⟨RX11, TX11, 48, tyX11, cl_X11, by decide, mw 4 22 rfl rfl⟩
theorem fl_X11_46 : FL RX11 46 12 19 := ⟨RX11, TX11, 48, tyX11, cl_X11, by decide, mw 4 23 rfl rfl⟩
theorem fl_X11_49 : FL RX11 49 12 21 := ⟨RX11, TX11, 48, tyX11, cl_X11, by decide, mw 4 25 rfl rfl⟩
theorem fl_X11_53 : FL RX11 53 12 31 := ⟨RX11, TX11, 48, tyX11, cl_X11, by decide, mw 4 26 rfl rfl⟩
theorem fl_X11_56 : FL RX11 56 12 32 := ⟨RX11, TX11, 48, tyX11, cl_X11, by decide, mw 4 27 rfl rfl⟩
theorem fl_X11_59 : FL RX11 59 12 33 := ⟨RX11, TX11, 48, tyX11, cl_X11, by decide, mw 4 28 rfl rfl⟩
theorem fl_X11_62 : FL RX11 62 12 34 := ⟨RX11, TX11, 48, tyX11, cl_X11, by decide, mw 4 29 rfl rfl⟩
theorem fl_X11_65 : FL RX11 65 12 37 := ⟨RX11, TX11, 48, tyX11, cl_X11, by decide, mw 4 30 rfl rfl⟩
theorem fl_X11_68 : FL RX11 68 12 47 := ⟨RX11, TX11, 48, tyX11, cl_X11, by decide, mw 4 31 rfl rfl⟩
theorem fl_X11_71 : FL RX11 71 12 0 := ⟨RX11, TX11, 48, tyX11, cl_X11, by decide, mw 7 6 rfl rfl⟩
theorem fp_X11_71 : FP RX11 71 12 0 .int := ⟨RX11, TX11, 48, tyX11, cl_X11, by decide, mw 7 6 rfl rfl, rfl, rfl, rfl⟩
theorem fl_X11_79 : FL RX11 79 12 5 := ⟨RX11, TX11, 48, tyX11, cl_X11, by decide, mw 7 29 rfl rfl⟩
theorem fp_X11_79 : FP RX11 79 12 5 .int := ⟨RX11, TX11, 48, tyX11, cl_X11, by decide, mw 7 29 rfl rfl, rfl, rfl, rfl⟩
theorem fl_X11_165 : FL RX11 165 12 17 := ⟨RX11, TX11, 48, tyX11, cl_X11, by decide, mw 15 0 rfl rfl⟩
theorem fp_X11_165 : FP RX11 165 12 17 .int := ⟨RX11, TX11, 48, tyX11, cl_X11, by decide, mw 15 0 rfl rfl, rfl, rfl, rfl⟩
theorem fl_X11_200 : FL RX11 200 12 20 := ⟨RX11, TX11, 48, tyX11, cl_X11, by decide, mw 20 25 rfl rfl⟩
theorem fp_X11_200 : FP RX11 200 12 20 .int := ⟨RX11, TX11, 48, tyX11, cl_X11, by decide, mw 20 25 rfl rfl, rfl, rfl, rfl⟩
theorem fl_X11_218 : FL RX11 218 12 13 := ⟨RX11, TX11, 48, tyX11, cl_X11, by decide, mw 20 26 rfl rfl⟩
theorem fp_X11_218 : FP RX11 218 12 13 .int := ⟨RX11, TX11, 48, tyX11, cl_X11, by decide, mw 20 26 rfl rfl, rfl, rfl, rfl⟩
theorem fl_X11_245 : FL RX11 245 12 25 := ⟨RX11, TX11, 48, tyX11, cl_X11, by decide, mw 26 23 rfl rfl⟩
theorem fp_X11_245 : FP RX11 245 12 25 .int := ⟨RX11, TX11, 48, tyX11, cl_X11, by decide, mw 26 23 rfl rfl, rfl, rfl, rfl⟩
theorem fl_X11_248 : FL RX11 248 12 22 := ⟨RX11, TX11, 48, tyX11, cl_X11, by decide, mw 26 24 rfl rfl⟩
theorem fp_X11_248 : FP RX11 248 12 22 .int := ⟨RX11, TX11, 48, tyX11, cl_X11, by decide, mw 26 24 rfl rfl, rfl, rfl, rfl⟩
theorem fl_X11_251 : FL RX11 251 12 23 := ⟨RX11, TX11, 48, tyX11, cl_X11, by decide, mw 26 25 rfl rfl⟩
theorem fp_X11_251 : FP RX11 251 12 23 .int := ⟨RX11, TX11, 48, tyX11, cl_X11, by decide, mw 26 25 rfl rfl, rfl, rfl, rfl⟩
theorem fl_X11_254 : FL RX11 254 12 24 := ⟨RX11, TX11, 48, tyX11, cl_X11, by decide, mw 26 26 rfl rfl⟩
theorem fp_X11_254 : FP RX11 254 12 24 .int := ⟨RX11, TX11, 48, tyX11, cl_X11, by decide, mw 26 26 rfl rfl, rfl, rfl, rfl⟩
theorem fl_X4_93 : FL RX4 93 5 6 := ⟨RX4, TX4, 11, tyX4, cl_X4, by decide, mw 27 30 rfl rfl⟩
theorem fp_X4_93 : FP RX4 93 5 6 .int := ⟨RX4, TX4, 11, tyX4, cl_X4, by decide, mw 27 30 rfl rfl, rfl, rfl, rfl⟩
theorem fl_X4_96 : FL RX4 96 5 7 := ⟨RX4, TX4, 11, tyX4, cl_X4, by decide, mw 27 31 rfl rfl⟩
theorem fp_X4_96 : FP RX4 96 5 7 .int := ⟨RX4, TX4, 11, tyX4, cl_X4, by decide, mw 27 31 rfl rfl, rfl, rfl, rfl⟩
theorem fl_X4_99 : FL RX4 99 5 8 := ⟨RX4, TX4, 11, tyX4, cl_X4, by decide, mw 28 0 rfl rfl⟩
theorem fp_X4_99 : FP RX4 99 5 8 .int := ⟨RX4, TX4, 11, tyX4, cl_X4, by decide, mw 28 0 rfl rfl, rfl, rfl, rfl⟩
theorem fl_X4_102 : FL RX4 102 5 9 := ⟨RX4, TX4, 11, tyX4, cl_X4, by decide, mw 28 1 rfl rfl⟩
theorem fp_X4_102 : FP RX4 102 5 9 .int := ⟨RX4, TX4, 11, tyX4, cl_X4, by decide, mw 28 1 rfl rfl, rfl, rfl, rfl⟩
theorem fl_X4_105 : FL RX4 105 5 10 := ⟨RX4, TX4, 11, tyX4, cl_X4, by decide, mw 28 2 rfl rfl⟩
theorem fp_X4_105 : FP RX4 105 5 10 .int := ⟨RX4, TX4, 11, tyX4, cl_X4, by decide, mw 28 2 rfl rfl, rfl, rfl, rfl⟩
theorem fl_X11_276 : FL RX11 276 12 30 := ⟨RX11, TX11, 48, tyX11, cl_X11, by decide, mw 29 11 rfl rfl⟩
theorem fp_X11_276 : FP RX11 276 12 30 .int := ⟨RX11, TX11, 48, tyX11, cl_X11, by decide, mw 29 11 rfl rfl, rfl, rfl, rfl⟩
theorem fl_X11_267 : FL RX11 267 12 27 := ⟨RX11, TX11, 48, tyX11, cl_X11, by decide, mw 29 12 rfl rfl⟩
theorem fp_X11_267 : FP RX11 267 12 27 .int := ⟨RX11, TX11, 48, tyX11, cl_X11, by decide, mw 29 12 rfl rfl, rfl, rfl, rfl⟩
theorem fl_X11_264 : FL RX11 264 12 26 := ⟨RX11, TX11, 48, tyX11, cl_X11, by decide, mw 29 13 rfl rfl⟩
theorem fp_X11_264 : FP RX11 264 12 26 .int := ⟨RX11, TX11, 48, tyX11, cl_X11, by decide, mw 29 13 rfl rfl, rfl, rfl, rfl⟩
theorem fl_X11_273 : FL RX11 273 12 29 := ⟨RX11, TX11, 48, tyX11, cl_X11, by decide, mw 29 14 rfl rfl⟩
theorem fp_X11_273 : FP RX11 273 12 29 .int := ⟨RX11, TX11, 48, tyX11, cl_X11, by decide, mw 29 14 rfl rfl, rfl, rfl, rfl⟩
theorem fl_X11_270 : FL RX11 270 12 28 := ⟨RX11, TX11, 48, tyX11, cl_X11, by decide, mw 29 15 rfl rfl⟩
theorem fp_X11_270 : FP RX11 270 12 28 .int := ⟨RX11, TX11, 48, tyX11, cl_X11, by decide, mw 29 15 rfl rfl, rfl, rfl, rfl⟩
theorem fl_X11_292 : FL RX11 292 12 35 := ⟨RX11, TX11, 48, tyX11, cl_X11, by decide, mw 32 13 rfl rfl⟩
theorem fp_X11_292 : FP RX11 292 12 35 .int := ⟨RX11, TX11, 48, tyX11, cl_X11, by decide, mw 32 13 rfl rfl, rfl, rfl, rfl⟩
theorem fl_X11_295 : FL RX11 295 12 36 := ⟨RX11, TX11, 48, tyX11, cl_X11, by decide, mw 32 14 rfl rfl⟩
theorem fp_X11_295 : FP RX11 295 12 36 .int := ⟨RX11, TX11, 48, tyX11, cl_X11, by decide, mw 32 14 rfl rfl, rfl, rfl, rfl⟩
theorem fl_X11_314 : FL RX11 314 12 8 := ⟨RX11, TX11, 48, tyX11, cl_X11, by decide, mw 34 13 rfl rfl⟩
theorem fp_X11_314 : FP RX11 314 12 8 .int := ⟨RX11, TX11, 48, tyX11, cl_X11, by decide, mw 34 13 rfl rfl, rfl, rfl, rfl⟩
theorem fl_X6_46 : FL RX6 46 7 4 := ⟨RX6, TX6, 15, tyX6, cl_X6, by decide, mw 35 17 rfl rfl⟩
theorem fp_X6_46 : FP RX6 46 7 4 .char := ⟨RX6, TX6, 15, tyX6, cl_X6, by decide, mw 35 17 rfl rfl, rfl, rfl, rfl⟩
theorem fl_X6_62 : FL RX6 62 7 5 := ⟨RX6, TX6, 15, tyX6, cl_X6, by decide, mw 35 30 rfl rfl⟩
theorem fp_X6_62 : FP RX6 62 7 5 .int := ⟨RX6, TX6, 15, tyX6, cl_X6, by decide, mw 35 30 rfl rfl, rfl, rfl, rfl⟩
theorem fl_X6_65 : FL RX6 65 7 6 := ⟨RX6, TX6, 15, tyX6, cl_X6, by decide, mw 35 31 rfl rfl⟩
theorem fp_X6_65 : FP RX6 65 7 6 .int := ⟨RX6, TX6, 15, tyX6, cl_X6, by decide, mw 35 31 rfl rfl, rfl, rfl, rfl⟩
theorem fl_X6_68 : FL RX6 68 7 7 := ⟨RX6, TX6, 15, tyX6, cl_X6, by decide, mw 36 0 rfl rfl⟩
theorem fp_X6_68 : FP RX6 68 7 7 .int := ⟨RX6, TX6, 15, tyX6, cl_X6, by decide, mw 36 0 rfl rfl, rfl, rfl, rfl⟩
theorem fl_X6_71 : FL RX6 71 7 8 := ⟨RX6, TX6, 15, tyX6, cl_X6, by decide, mw 36 1 rfl rfl⟩
theorem fp_X6_71 : FP RX6 71 7 8 .int := ⟨RX6, TX6, 15, tyX6, cl_X6, by decide, mw 36 1 rfl rfl, rfl, rfl, rfl⟩
theorem fl_X6_80 : FL RX6 80 7 9 := ⟨RX6, TX6, 15, tyX6, cl_X6, by decide, mw 36 18 rfl rfl⟩
theorem fp_X6_80 : FP RX6 80 7 9 .int := ⟨RX6, TX6, 15, tyX6, cl_X6, by decide, mw 36 18 rfl rfl, rfl, rfl, rfl⟩
theorem fl_X6_83 : FL RX6 83 7 10 := ⟨RX6, TX6, 15, tyX6, cl_X6, by decide, mw 36 19 rfl rfl⟩
theorem fp_X6_83 : FP RX6 83 7 10 .int := ⟨RX6, TX6, 15, tyX6, cl_X6, by decide, mw 36 19 rfl rfl, rfl, rfl, rfl⟩
theorem fl_X6_86 : FL RX6 86 7 11 := ⟨RX6, TX6, 15, tyX6, cl_X6, by decide, mw 36 20 rfl rfl⟩
theorem fp_X6_86 : FP RX6 86 7 11 .int := ⟨RX6, TX6, 15, tyX6, cl_X6, by decide, mw 36 20 rfl rfl, rfl, rfl, rfl⟩
theorem fl_X6_89 : FL RX6 89 7 12 := ⟨RX6, TX6, 15, tyX6, cl_X6, by decide, mw 36 21 rfl rfl⟩
theorem fp_X6_89 : FP RX6 89 7 12 .boolean := ⟨RX6, TX6, 15, tyX6, cl_X6, by decide, mw 36 21 rfl rfl, rfl, rfl, rfl⟩
theorem fl_X6_25 : FL RX6 25 7 13 := ⟨RX6, TX6, 15, tyX6, cl_X6, by decide, mw 37 22 rfl rfl⟩
theorem fp_X6_25 : FP RX6 25 7 13 .int := ⟨RX6, TX6, 15, tyX6, cl_X6, by decide, mw 37 22 rfl rfl, rfl, rfl, rfl⟩
theorem fl_X6_28 : FL RX6 28 7 14 := ⟨RX6, TX6, 15, tyX6, cl_X6, by decide, mw 37 23 rfl rfl⟩
theorem fp_X6_28 : FP RX6 28 7 14 .int := ⟨RX6, TX6, 15, tyX6, cl_X6, by decide, mw 37 23 rfl rfl, rfl, rfl, rfl⟩
theorem fl_X11_359 : FL RX11 359 12 14 := ⟨RX11, TX11, 48, tyX11, cl_X11, by decide, mw 39 4 rfl rfl⟩
theorem fp_X11_359 : FP RX11 359 12 14 .int := ⟨RX11, TX11, 48, tyX11, cl_X11, by decide, mw 39 4 rfl rfl, rfl, rfl, rfl⟩
theorem fl_X11_317 : FL RX11 317 12 38 := ⟨RX11, TX11, 48, tyX11, cl_X11, by decide, mw 39 5 rfl rfl⟩
theorem fp_X11_317 : FP RX11 317 12 38 .int := ⟨RX11, TX11, 48, tyX11, cl_X11, by decide, mw 39 5 rfl rfl, rfl, rfl, rfl⟩
theorem fl_X11_362 : FL RX11 362 12 40 := ⟨RX11, TX11, 48, tyX11, cl_X11, by decide, mw 39 6 rfl rfl⟩
theorem fp_X11_362 : FP RX11 362 12 40 .int := ⟨RX11, TX11, 48, tyX11, cl_X11, by decide, mw 39 6 rfl rfl, rfl, rfl, rfl⟩
theorem fl_X11_320 : FL RX11 320 12 39 := ⟨RX11, TX11, 48, tyX11, cl_X11, by decide, mw 39 7 rfl rfl⟩
theorem fp_X11_320 : FP RX11 320 12 39 .boolean := ⟨RX11, TX11, 48, tyX11, cl_X11, by decide, mw 39 7 rfl rfl, rfl, rfl, rfl⟩
theorem fl_X11_343 : FL RX11 343 12 41 := ⟨RX11, TX11, 48, tyX11, cl_X11, by decide, mw 39 16 rfl rfl⟩
theorem fp_X11_343 : FP RX11 343 12 41 .int := ⟨RX11, TX11, 48, tyX11, cl_X11, by decide, mw 39 16 rfl rfl, rfl, rfl, rfl⟩
theorem fl_X11_353 : FL RX11 353 12 42 := ⟨RX11, TX11, 48, tyX11, cl_X11, by decide, mw 39 17 rfl rfl⟩
theorem fp_X11_353 : FP RX11 353 12 42 .int := ⟨RX11, TX11, 48, tyX11, cl_X11, by decide, mw 39 17 rfl rfl, rfl, rfl, rfl⟩
theorem fl_X11_331 : FL RX11 331 12 43 := ⟨RX11, TX11, 48, tyX11, cl_X11, by decide, mw 39 18 rfl rfl⟩
theorem fp_X11_331 : FP RX11 331 12 43 .int := ⟨RX11, TX11, 48, tyX11, cl_X11, by decide, mw 39 18 rfl rfl, rfl, rfl, rfl⟩
theorem fl_X11_340 : FL RX11 340 12 44 := ⟨RX11, TX11, 48, tyX11, cl_X11, by decide, mw 39 19 rfl rfl⟩
theorem fp_X11_340 : FP RX11 340 12 44 .int := ⟨RX11, TX11, 48, tyX11, cl_X11, by decide, mw 39 19 rfl rfl, rfl, rfl, rfl⟩
theorem fl_X11_334 : FL RX11 334 12 45 := ⟨RX11, TX11, 48, tyX11, cl_X11, by decide, mw 39 20 rfl rfl⟩
theorem fp_X11_334 : FP RX11 334 12 45 .int := ⟨RX11, TX11, 48, tyX11, cl_X11, by decide, mw 39 20 rfl rfl, rfl, rfl, rfl⟩
theorem fl_X11_337 : FL RX11 337 12 46 := ⟨RX11, TX11, 48, tyX11, cl_X11, by decide, mw 39 21 rfl rfl⟩
theorem fp_X11_337 : FP RX11 337 12 46 .boolean := ⟨RX11, TX11, 48, tyX11, cl_X11, by decide, mw 39 21 rfl rfl, rfl, rfl, rfl⟩
theorem fl_X11_385 : FL RX11 385 12 6 := ⟨RX11, TX11, 48, tyX11, cl_X11, by decide, mw 42 0 rfl rfl⟩
theorem fp_X11_385 : FP RX11 385 12 6 .boolean := ⟨RX11, TX11, 48, tyX11, cl_X11, by decide, mw 42 0 rfl rfl, rfl, rfl, rfl⟩
theorem fl_X10_123 : FLN RX10 123 9 1 := ⟨RX8, TX8, 3, tyX8, cl_X8, by decide, by decide⟩
theorem fl_X10_163 : FLN RX10 163 9 2 := ⟨RX8, TX8, 3, tyX8, cl_X8, by decide, by decide⟩
theorem fl_X10_93 : FLN RX10 93 9 0 := ⟨RX8, TX8, 3, tyX8, cl_X8, by decide, by decide⟩
theorem fl_X4_136 : FLN RX4 136 9 0 := ⟨RX8, TX8, 3, tyX8, cl_X8, by decide, by decide⟩
theorem fl_X4_53 : FLN RX4 53 9 2 := ⟨RX8, TX8, 3, tyX8, cl_X8, by decide, by decide⟩
theorem fl_X5_73 : FLN RX5 73 9 2 := ⟨RX8, TX8, 3, tyX8, cl_X8, by decide, by decide⟩
theorem fl_X6_118 : FLN RX6 118 9 0 := ⟨RX8, TX8, 3, tyX8, cl_X8, by decide, by decide⟩
theorem fl_X6_139 : FLN RX6 139 9 1 := ⟨RX8, TX8, 3, tyX8, cl_X8, by decide, by decide⟩
theorem fl_X7_34 : FLN RX7 34 9 1 := ⟨RX8, TX8, 3, tyX8, cl_X8, by decide, by decide⟩
theorem fl_X7_46 : FLN RX7 46 9 2 := ⟨RX8, TX8, 3, tyX8, cl_X8, by decide, by decide⟩
theorem fl_X7_53 : FLN RX7 53 9 0 := ⟨RX8, TX8, 3, tyX8, cl_X8, by decide, by decide⟩
