/-! rows for the JDK's own min, max, abs and arraycopy; for switches -/
def MB (own : String) (idx : Nat) (y : MethodName) (code : ByteArray) (n : Nat) : Prop := Cond.methodLink own idx y ∈ W0 ∧ Cond.static y ∈ W0 ∧ Cond.initialized "java/lang/Math" ∈ W0 ∧ Cond.code y code n (some .int) ∈ W0
def AB (own : String) (idx : Nat) : Prop := Cond.methodLink own idx arraycopyName ∈ W0 ∧ Cond.native arraycopyName ∈ W0 ∧ Cond.static arraycopyName ∈ W0 ∧ Cond.initialized "java/lang/System" ∈ W0
def cpok (sp : Int32) (n0 : Nat) (dp : Int32) (n1 : Nat) (n : Int32) : Bool := decide ((0 ≤ sp.toInt ∧ 0 ≤ dp.toInt ∧ 0 ≤ n.toInt) ∧ sp.toNatClampNeg + n.toNatClampNeg ≤ n0 ∧ dp.toNatClampNeg + n.toNatClampNeg ≤ n1)
theorem nneg {x : Int32} (h : 0 ≤ x.toInt) : ¬ x < 0 := by
  rw [Int32.lt_iff_toInt_lt]
  exact Int.not_lt.mpr h
section GM
variable {p : Program} {l : Launch} {e : Env} {s : State} {m : MethodId} {args : Array Value} {below : List Frame} {meth : Method} {c : Code} {H : Heap} {locs : List Loc} {Q : State → Prop}
variable {g : Geo} {own : String} {cc : ByteArray} {nL : Nat} {rt : Option FieldType} {σ : St} {pc : Nat} {ls : Array Slot} {rest : List Value} {a b idx : Nat}
theorem gm_min {x y : Int32} (X : Cx g own cc nL rt p s m args meth c) (B : MB own idx Lib.Math.min.name Lib.Math.min.code 2) (hls : ls.size = nL) (hf : 1 ≤ a) (hl : (rest.map fun v => v.category).sum + 13 ≤ b) (hdg : decode cc pc = .ok (.invokestatic idx, 3))
    (kk : W p l e (rmm a b) s m args below meth c H locs 0 0 Q (F0 m (pc + 3) ls (.int (if y < x then y else x) :: rest))) : W p l e (rmm a b) s m args below meth c H locs 0 0 Q (F0 m pc ls (.int y :: .int x :: rest)) := by
  obtain ⟨hx, hb, hml, hr, hown, hts, hK, hG, hlk⟩ := X
  exact va_mmin hx hb (hml.trans hls.symm) hown (hts _ B.1) (hts _ B.2.1) (hts _ B.2.2.1) (hts _ B.2.2.2) hf hl (Nat.le_refl _) (Nat.le_refl _) hdg kk
theorem gm_max {x y : Int32} (X : Cx g own cc nL rt p s m args meth c) (B : MB own idx Lib.Math.max.name Lib.Math.max.code 2) (hls : ls.size = nL) (hf : 1 ≤ a) (hl : (rest.map fun v => v.category).sum + 13 ≤ b) (hdg : decode cc pc = .ok (.invokestatic idx, 3))
    (kk : W p l e (rmm a b) s m args below meth c H locs 0 0 Q (F0 m (pc + 3) ls (.int (if x < y then y else x) :: rest))) : W p l e (rmm a b) s m args below meth c H locs 0 0 Q (F0 m pc ls (.int y :: .int x :: rest)) := by
  obtain ⟨hx, hb, hml, hr, hown, hts, hK, hG, hlk⟩ := X
  exact va_mmax hx hb (hml.trans hls.symm) hown (hts _ B.1) (hts _ B.2.1) (hts _ B.2.2.1) (hts _ B.2.2.2) hf hl (Nat.le_refl _) (Nat.le_refl _) hdg kk
theorem gm_abs {x : Int32} (X : Cx g own cc nL rt p s m args meth c) (B : MB own idx Lib.Math.abs.name Lib.Math.abs.code 1) (hls : ls.size = nL) (hf : 1 ≤ a) (hl : (rest.map fun v => v.category).sum + 13 ≤ b) (hdg : decode cc pc = .ok (.invokestatic idx, 3))
    (kk : W p l e (rmm a b) s m args below meth c H locs 0 0 Q (F0 m (pc + 3) ls (.int (if 0 ≤ x then x else 0 - x) :: rest))) : W p l e (rmm a b) s m args below meth c H locs 0 0 Q (F0 m pc ls (.int x :: rest)) := by
  obtain ⟨hx, hb, hml, hr, hown, hts, hK, hG, hlk⟩ := X
  exact va_mabs hx hb (hml.trans hls.symm) hown (hts _ B.1) (hts _ B.2.1) (hts _ B.2.2.1) (hts _ B.2.2.2) hf hl (Nat.le_refl _) (Nat.le_refl _) hdg kk
theorem gcp {k0 k1 : Nat} {sp dp n : Int32} (X : Cx g own cc nL rt p s m args meth c) (Y : Wd g s σ H locs) (B : AB own idx) (hls : ls.size = nL) (h0 : kd k0 = 20) (h1 : kd k1 = 20) (hc : cpok sp (ln k0) dp (ln k1) n = true) (hf : 1 ≤ a) (hl : (rest.map fun v => v.category).sum + (nativeFrameWords "java/lang/System" "arraycopy" 5 + 11) ≤ b) (hdg : decode cc pc = .ok (.invokestatic idx, 3))
    (kk : ∀ (H1 : Heap) (locs1 : List Loc), Wd g s (upA σ k1 (va_cpy (σ k0) (σ k1) sp.toNatClampNeg dp.toNatClampNeg n.toNatClampNeg)) H1 locs1 → W p l e (rmm a b) s m args below meth c H1 locs1 0 0 Q (F0 m (pc + 3) ls rest)) : W p l e (rmm a b) s m args below meth c H locs 0 0 Q (F0 m pc ls (.int n :: .int dp :: .ref (g.2.2 k1) :: .int sp :: .ref (g.2.2 k0) :: rest)) := by
  obtain ⟨hx, hb, hml, hr, hown, hts, hK, hG, hlk⟩ := X
  have e0 : (wld g σ)[k0]? = some (g.2.2 k0, .inl (g.2.1 0, ln k0, .inl (σ k0))) := by rw [wld_get (kd_lt h0 (by omega)), ent_arr (i := 0) h0 (by omega)]
  have e1 : (wld g σ)[k1]? = some (g.2.2 k1, .inl (g.2.1 0, ln k1, .inl (σ k1))) := by rw [wld_get (kd_lt h1 (by omega)), ent_arr (i := 0) h1 (by omega)]
  obtain ⟨⟨c1, c2, c3⟩, c4, c5⟩ := of_decide_eq_true hc
  refine va_copyi hx hb (hml.trans hls.symm) hown (hts _ B.1) (hts _ B.2.1) (hts _ B.2.2.1) (hts _ B.2.2.2) hK Y.1 (wld_D hG σ _) Y.2 k0 k1 0 0 e0 e1 (tys_get (by omega)) (tys_get (by omega)) rfl (nneg c1) (nneg c2) (nneg c3) c4 c5 (fun _ _ => rfl) hf hl hdg (fun H1 locs1 hP hD hS => ?_)
  rw [wld_setA (i := 0) h1 (by omega)] at hP
  exact kk H1 locs1 ⟨hP, hS⟩
end GM
theorem ts1 {x k : Int32} (c : x = k) (h : ¬ k.toInt < 0) : ¬ x.toInt < 0 := c ▸ h
theorem ts2 {x k : Int32} {hi : Int} (c : x = k) (h : ¬ hi < k.toInt) : ¬ hi < x.toInt := c ▸ h
theorem ts3 {x k : Int32} {offs : Array Int} {off : Int} (c : x = k) (h : offs[(k.toInt - 0).toNat]? = some off) : offs[(x.toInt - 0).toNat]? = some off := c ▸ h
theorem ts5n {x : Int32} (c0 : ¬ x = 0) (c1 : ¬ x = 1) (c2 : ¬ x = 2) (c3 : ¬ x = 3) (c4 : ¬ x = 4) : x.toInt < 0 ∨ 4 < x.toInt := by
  have h0 : x.toInt ≠ 0 := fun e => c0 (Int32.toInt_inj.mp (by rw [e]; decide))
  have h1 : x.toInt ≠ 1 := fun e => c1 (Int32.toInt_inj.mp (by rw [e]; decide))
  have h2 : x.toInt ≠ 2 := fun e => c2 (Int32.toInt_inj.mp (by rw [e]; decide))
  have h3 : x.toInt ≠ 3 := fun e => c3 (Int32.toInt_inj.mp (by rw [e]; decide))
  have h4 : x.toInt ≠ 4 := fun e => c4 (Int32.toInt_inj.mp (by rw [e]; decide))
  omega
theorem ts7n {x : Int32} (c0 : ¬ x = 0) (c1 : ¬ x = 1) (c2 : ¬ x = 2) (c3 : ¬ x = 3) (c4 : ¬ x = 4) (c5 : ¬ x = 5) (c6 : ¬ x = 6) : x.toInt < 0 ∨ 6 < x.toInt := by
  have h0 : x.toInt ≠ 0 := fun e => c0 (Int32.toInt_inj.mp (by rw [e]; decide))
  have h1 : x.toInt ≠ 1 := fun e => c1 (Int32.toInt_inj.mp (by rw [e]; decide))
  have h2 : x.toInt ≠ 2 := fun e => c2 (Int32.toInt_inj.mp (by rw [e]; decide))
  have h3 : x.toInt ≠ 3 := fun e => c3 (Int32.toInt_inj.mp (by rw [e]; decide))
  have h4 : x.toInt ≠ 4 := fun e => c4 (Int32.toInt_inj.mp (by rw [e]; decide))
  have h5 : x.toInt ≠ 5 := fun e => c5 (Int32.toInt_inj.mp (by rw [e]; decide))
  have h6 : x.toInt ≠ 6 := fun e => c6 (Int32.toInt_inj.mp (by rw [e]; decide))
  omega
theorem ts8n {x : Int32} (c0 : ¬ x = 0) (c1 : ¬ x = 1) (c2 : ¬ x = 2) (c3 : ¬ x = 3) (c4 : ¬ x = 4) (c5 : ¬ x = 5) (c6 : ¬ x = 6) (c7 : ¬ x = 7) : x.toInt < 0 ∨ 7 < x.toInt := by
  have h0 : x.toInt ≠ 0 := fun e => c0 (Int32.toInt_inj.mp (by rw [e]; decide))
  have h1 : x.toInt ≠ 1 := fun e => c1 (Int32.toInt_inj.mp (by rw [e]; decide))
  have h2 : x.toInt ≠ 2 := fun e => c2 (Int32.toInt_inj.mp (by rw [e]; decide))
  have h3 : x.toInt ≠ 3 := fun e => c3 (Int32.toInt_inj.mp (by rw [e]; decide))
  have h4 : x.toInt ≠ 4 := fun e => c4 (Int32.toInt_inj.mp (by rw [e]; decide))
  have h5 : x.toInt ≠ 5 := fun e => c5 (Int32.toInt_inj.mp (by rw [e]; decide))
  have h6 : x.toInt ≠ 6 := fun e => c6 (Int32.toInt_inj.mp (by rw [e]; decide))
  have h7 : x.toInt ≠ 7 := fun e => c7 (Int32.toInt_inj.mp (by rw [e]; decide))
  omega
theorem ts9n {x : Int32} (c0 : ¬ x = 0) (c1 : ¬ x = 1) (c2 : ¬ x = 2) (c3 : ¬ x = 3) (c4 : ¬ x = 4) (c5 : ¬ x = 5) (c6 : ¬ x = 6) (c7 : ¬ x = 7) (c8 : ¬ x = 8) : x.toInt < 0 ∨ 8 < x.toInt := by
  have h0 : x.toInt ≠ 0 := fun e => c0 (Int32.toInt_inj.mp (by rw [e]; decide))
  have h1 : x.toInt ≠ 1 := fun e => c1 (Int32.toInt_inj.mp (by rw [e]; decide))
  have h2 : x.toInt ≠ 2 := fun e => c2 (Int32.toInt_inj.mp (by rw [e]; decide))
  have h3 : x.toInt ≠ 3 := fun e => c3 (Int32.toInt_inj.mp (by rw [e]; decide))
  have h4 : x.toInt ≠ 4 := fun e => c4 (Int32.toInt_inj.mp (by rw [e]; decide))
  have h5 : x.toInt ≠ 5 := fun e => c5 (Int32.toInt_inj.mp (by rw [e]; decide))
  have h6 : x.toInt ≠ 6 := fun e => c6 (Int32.toInt_inj.mp (by rw [e]; decide))
  have h7 : x.toInt ≠ 7 := fun e => c7 (Int32.toInt_inj.mp (by rw [e]; decide))
  have h8 : x.toInt ≠ 8 := fun e => c8 (Int32.toInt_inj.mp (by rw [e]; decide))
  omega
theorem ts10n {x : Int32} (c0 : ¬ x = 0) (c1 : ¬ x = 1) (c2 : ¬ x = 2) (c3 : ¬ x = 3) (c4 : ¬ x = 4) (c5 : ¬ x = 5) (c6 : ¬ x = 6) (c7 : ¬ x = 7) (c8 : ¬ x = 8) (c9 : ¬ x = 9) : x.toInt < 0 ∨ 9 < x.toInt := by
  have h0 : x.toInt ≠ 0 := fun e => c0 (Int32.toInt_inj.mp (by rw [e]; decide))
  have h1 : x.toInt ≠ 1 := fun e => c1 (Int32.toInt_inj.mp (by rw [e]; decide))
  have h2 : x.toInt ≠ 2 := fun e => c2 (Int32.toInt_inj.mp (by rw [e]; decide))
  have h3 : x.toInt ≠ 3 := fun e => c3 (Int32.toInt_inj.mp (by rw [e]; decide))
  have h4 : x.toInt ≠ 4 := fun e => c4 (Int32.toInt_inj.mp (by rw [e]; decide))
  have h5 : x.toInt ≠ 5 := fun e => c5 (Int32.toInt_inj.mp (by rw [e]; decide))
  have h6 : x.toInt ≠ 6 := fun e => c6 (Int32.toInt_inj.mp (by rw [e]; decide))
  have h7 : x.toInt ≠ 7 := fun e => c7 (Int32.toInt_inj.mp (by rw [e]; decide))
  have h8 : x.toInt ≠ 8 := fun e => c8 (Int32.toInt_inj.mp (by rw [e]; decide))
  have h9 : x.toInt ≠ 9 := fun e => c9 (Int32.toInt_inj.mp (by rw [e]; decide))
  omega
theorem ts24n {x : Int32} (c0 : ¬ x = 0) (c1 : ¬ x = 1) (c2 : ¬ x = 2) (c3 : ¬ x = 3) (c4 : ¬ x = 4) (c5 : ¬ x = 5) (c6 : ¬ x = 6) (c7 : ¬ x = 7) (c8 : ¬ x = 8) (c9 : ¬ x = 9) (c10 : ¬ x = 10) (c11 : ¬ x = 11) (c12 : ¬ x = 12) (c13 : ¬ x = 13) (c14 : ¬ x = 14) (c15 : ¬ x = 15) (c16 : ¬ x = 16) (c17 : ¬ x = 17) (c18 : ¬ x = 18) (c19 : ¬ x = 19) (c20 : ¬ x = 20) (c21 : ¬ x = 21) (c22 : ¬ x = 22) (c23 : ¬ x = 23) : x.toInt < 0 ∨ 23 < x.toInt := by
  have h0 : x.toInt ≠ 0 := fun e => c0 (Int32.toInt_inj.mp (by rw [e]; decide))
  have h1 : x.toInt ≠ 1 := fun e => c1 (Int32.toInt_inj.mp (by rw [e]; decide))
  have h2 : x.toInt ≠ 2 := fun e => c2 (Int32.toInt_inj.mp (by rw [e]; decide))
  have h3 : x.toInt ≠ 3 := fun e => c3 (Int32.toInt_inj.mp (by rw [e]; decide))
  have h4 : x.toInt ≠ 4 := fun e => c4 (Int32.toInt_inj.mp (by rw [e]; decide))
  have h5 : x.toInt ≠ 5 := fun e => c5 (Int32.toInt_inj.mp (by rw [e]; decide))
  have h6 : x.toInt ≠ 6 := fun e => c6 (Int32.toInt_inj.mp (by rw [e]; decide))
  have h7 : x.toInt ≠ 7 := fun e => c7 (Int32.toInt_inj.mp (by rw [e]; decide))
  have h8 : x.toInt ≠ 8 := fun e => c8 (Int32.toInt_inj.mp (by rw [e]; decide))
  have h9 : x.toInt ≠ 9 := fun e => c9 (Int32.toInt_inj.mp (by rw [e]; decide))
  have h10 : x.toInt ≠ 10 := fun e => c10 (Int32.toInt_inj.mp (by rw [e]; decide))
  have h11 : x.toInt ≠ 11 := fun e => c11 (Int32.toInt_inj.mp (by rw [e]; decide))
  have h12 : x.toInt ≠ 12 := fun e => c12 (Int32.toInt_inj.mp (by rw [e]; decide))
  have h13 : x.toInt ≠ 13 := fun e => c13 (Int32.toInt_inj.mp (by rw [e]; decide))
  have h14 : x.toInt ≠ 14 := fun e => c14 (Int32.toInt_inj.mp (by rw [e]; decide))
  have h15 : x.toInt ≠ 15 := fun e => c15 (Int32.toInt_inj.mp (by rw [e]; decide))
  have h16 : x.toInt ≠ 16 := fun e => c16 (Int32.toInt_inj.mp (by rw [e]; decide))
  have h17 : x.toInt ≠ 17 := fun e => c17 (Int32.toInt_inj.mp (by rw [e]; decide))
  have h18 : x.toInt ≠ 18 := fun e => c18 (Int32.toInt_inj.mp (by rw [e]; decide))
  have h19 : x.toInt ≠ 19 := fun e => c19 (Int32.toInt_inj.mp (by rw [e]; decide))
  have h20 : x.toInt ≠ 20 := fun e => c20 (Int32.toInt_inj.mp (by rw [e]; decide))
  have h21 : x.toInt ≠ 21 := fun e => c21 (Int32.toInt_inj.mp (by rw [e]; decide))
  have h22 : x.toInt ≠ 22 := fun e => c22 (Int32.toInt_inj.mp (by rw [e]; decide))
  have h23 : x.toInt ≠ 23 := fun e => c23 (Int32.toInt_inj.mp (by rw [e]; decide))
  omega
