theorem nl_L_8 : NL RL 8 11 := ⟨RX10, TX10, 12, tyX10, cl_X10, mw 0 0 rfl rfl, mw 0 1 rfl rfl, mw 0 2 rfl rfl⟩
theorem nl_L_93 : NL RL 93 12 := ⟨RX11, TX11, 48, tyX11, cl_X11, mw 0 3 rfl rfl, mw 0 4 rfl rfl, mw 0 5 rfl rfl⟩
theorem cb_L_92 : CBI RL 92 yX10_init cX10_init 1 0 := ⟨mw 0 8 rfl rfl, mw 0 2 rfl rfl, mw 0 10 rfl rfl, by decide +kernel, mw 0 9 rfl rfl, rfl⟩
theorem cb_L_95 : CBI RL 95 yX11_init cX11_init 1 0 := ⟨mw 4 7 rfl rfl, mw 0 5 rfl rfl, mw 4 9 rfl rfl, by decide +kernel, mw 4 8 rfl rfl, rfl⟩
/-! THE LAW FROM ITS ENTRY, out of a fact on pure functions: the law's body, as a function of the script, comes to its end -/
def lawf (xs : Nat → Int32) (L : Nat) (z : Int32 × St) : Option ((Int32 × St) ⊕ St) := f_L_law_l28 xs L z.1 z.2
/-- WHAT IS LEFT TO PROVE, of pure functions alone -/
def LawPure : Prop := ∀ (xs : Nat → Int32) (L : Nat), L ≤ 3072 → ∃ τ, lp (lawf xs L) 514 (0, sg0) = some τ
theorem sub_le {k a n c : Nat} (h : k + a * (n + 1) ≤ c) : k + a ≤ c := by
  have : a ≤ a * (n + 1) := Nat.le_mul_of_pos_right a (Nat.succ_pos n)
  omega
theorem sub_nx {k a n c : Nat} (h : k + a * (n + 1) ≤ c) : k + a + a * n ≤ c := by
  rw [Nat.mul_succ] at h
  omega
set_option maxHeartbeats 4000000 in
theorem law_loop {p : Program} {l : Launch} {e : Env} {s : State} {m : MethodId} {below : List Frame} {meth : Method} {c : Code} {g : Geo} {b L : Nat} {xs : Nat → Int32} (X : Cx g RL cL_law 8 (some .boolean) p s m #[Value.ref b] meth c) (TX : TXs g (GA g s.heap.size) s s.heap) (hst : l.stackTraces = false) (hX : va_X b L xs s s.heap) (hbl : b < s.heap.size) (hnew : ∀ q, GA g s.heap.size q → s.heap.size ≤ q) {τ : St} :
    ∀ (n : Nat) (z : Int32 × St) (kc nc : Nat) (H : Heap) (locs : List Loc) (ls : Array Slot), kc + 4 * n ≤ 603072 → nc + 24 * n ≤ 7211114 → Wd g s z.2 H locs → lv_has ls 8 [(0, .ref b), (1, .ref (g.2.2 (0))), (2, .ref (g.2.2 (101))), (3, .ref (g.2.2 (122))), (4, .ref (g.2.2 (123))), (5, .int z.1)] → lp (lawf xs L) n z = some τ →
      W p l e room_1 s m #[Value.ref b] below meth c H locs kc nc (lw_Z below #[Value.ref b] s) (F0 m 28 ls []) := by
  have hbA : ¬ GA g s.heap.size b := fun h => absurd (hnew b h) (Nat.not_le.mpr hbl)
  intro n
  induction n with
  | zero => intro z kc nc H locs ls _ _ Y hl h; cases h
  | succ n ih =>
    intro z kc nc H locs ls hk hn Y hl h
    obtain ⟨w, h, hw⟩ := lps h
    refine w_L_law_l28 X TX hst hX hbl hbA (kc := kc) (nc := nc) (sub_le hk) (sub_le hn) z.1 z.2 (fun v0 v1 e H locs ls Y hl => ih (v0, v1) (kc + 4) (nc + 24) H locs ls (sub_nx hk) (sub_nx hn) Y hl (lpl hw e)) (fun v e H locs ls Y hl => ?_) Y hl h
    refine lv_iconst (v := 1) X.1 X.2.1 (dk T_L_law_15 56 rfl) ic_1 ?_
    refine va_forget (fun q hq => hnew _ (Y.2.2.2 q hq)) ?_
    refine W.widen (k := 603072) (n := 7211114) (Nat.le_trans (Nat.le_add_right _ _) hk) (Nat.le_trans (Nat.le_add_right _ _) hn) ?_
    exact lw_ret (Drawn.sameBut.refl s.drawn lw_cs) X.1 X.2.1 (X.2.2.2.1.trans rfl) X.2.2.2.2.2.2.2.2.1 (dk T_L_law_15 57 rfl)
set_option maxHeartbeats 4000000 in
set_option maxRecDepth 100000 in
/-- from the entry, the classes and the launch known -/
theorem law_entry {p : Program} {l : Launch} {e : Env} {s : State} {m : MethodId} {below : List Frame} {meth : Method} {c : Code} {g : Geo} {b L : Nat} {xs : Nat → Int32} (X : Cc g RL cL_law 8 p s m #[Value.ref b] meth c) (hr : meth.sig.returnType = some .boolean) (hlk : meth.locks = false) (hN : NWs s) (hT : ∀ A : Nat → Prop, (∀ a : Nat, a < s.heap.size → ¬ A a) → ∀ g : Geo, TXs g A s s.heap) (hst : l.stackTraces = false) (hX : va_X b L xs s s.heap) (hbl : b < s.heap.size) {τ : St} (h : lp (lawf xs L) 514 (0, sg0) = some τ) :
    W p l e room_1 s m #[Value.ref b] below meth c s.heap [] 0 0 (lw_Z below #[Value.ref b] s) (entryFrame m ([Value.ref b] : List Value).toArray 8) := by
  have Y : Wc g s (fun q : Nat => s.heap.size ≤ q) [] s.heap [] := ⟨fun k q h => by simp at h, ⟨fun i j p q h => by simp at h, fun k q h => by simp at h⟩, va_S.rf, fun _ h => h⟩
  have hl := lv_entry ([.ref b]) (n := 8) (Nat.le_of_ble_eq_true rfl)
  rw [lg_entry_eq]
  generalize (lg_sl ([.ref b]) ++ List.replicate (8 - (lg_sl ([.ref b])).length) Slot.unset).toArray = ls at hl ⊢
  replace hl : lv_has ls 8 [(0, .ref b)] := hl
  refine nnew (fs := [.null, .null, .null, .null, .null, .null, .null, .null, .null, .null, .null, .int 0]) X Y nl_L_8 df_RX10 rfl (Nat.le_of_ble_eq_true rfl) (Nat.le_of_ble_eq_true rfl) (dk T_L_law_0 0 rfl) (fun x H Y => ?_)
  refine W.cs (cells' := 1) (slots' := 12) rfl rfl ?_
  replace Y : Wc g s (fun q : Nat => s.heap.size ≤ q) [(x, .inr (11, [.null, .null, .null, .null, .null, .null, .null, .null, .null, .null, .null, .int 0]))] _ _ := Y
  refine lv_dup X.1 X.2.1 (dk T_L_law_0 1 rfl) rfl ?_
  refine ncall (rest := [.ref x]) (wr := []) X Y (c_X10_init (l := l) (g := g) x) cb_L_92 [0] [] rfl rfl rfl rfl (by decide) hl.1 rfl rfl (Nat.le_of_ble_eq_true rfl) ⟨Nat.le_of_ble_eq_true rfl, Nat.le_of_ble_eq_true rfl⟩ ⟨Nat.le_of_ble_eq_true rfl, Nat.le_of_ble_eq_true rfl⟩ (dk T_L_law_0 2 rfl) (fun u H locs Y => ?_)
  refine W.cs (cells' := 101) (slots' := 13888) rfl rfl ?_
  replace Y : Wc g s (fun q : Nat => s.heap.size ≤ q) (w_X10_init g x u) _ _ := Y
  refine lv_astore_n (lv' := [(1, .ref x), (0, .ref b)]) X.1 X.2.1 (dk T_L_law_0 3 rfl) rfl hl (Nat.le_of_ble_eq_true rfl) rfl (fun ls hl => ?_)
  refine nnew (fs := [.int 0, .null, .null, .null, .null, .int 0, .int 0, .null, .int 0, .null, .null, .null, .null, .int 0, .int 0, .null, .null, .int 0, .null, .null, .int 0, .null, .int 0, .int 0, .int 0, .int 0, .int 0, .int 0, .int 0, .int 0, .int 0, .null, .null, .null, .null, .int 0, .int 0, .null, .int 0, .int 0, .int 0, .int 0, .int 0, .int 0, .int 0, .int 0, .int 0, .null]) X Y nl_L_93 df_RX11 rfl (Nat.le_of_ble_eq_true rfl) (Nat.le_of_ble_eq_true rfl) (dk T_L_law_0 4 rfl) (fun mm H Y => ?_)
  refine W.cs (cells' := 102) (slots' := 13936) rfl rfl ?_
  refine lv_dup X.1 X.2.1 (dk T_L_law_0 5 rfl) rfl ?_
  refine ncall (rest := [.ref mm]) (wr := w_X10_init g x u) X Y (c_X11_init (l := l) (g := g) mm) cb_L_95 [101] (List.range 101) rfl rfl (by decide +kernel) rfl (by decide +kernel) hl.1 rfl rfl (Nat.le_of_ble_eq_true rfl) ⟨Nat.le_of_ble_eq_true rfl, Nat.le_of_ble_eq_true rfl⟩ ⟨Nat.le_of_ble_eq_true rfl, Nat.le_of_ble_eq_true rfl⟩ (dk T_L_law_0 6 rfl) (fun v H locs Y => ?_)
  refine W.cs (cells' := 122) (slots' := 27897) rfl rfl ?_
  refine lv_astore_n (lv' := [(2, .ref mm), (1, .ref x), (0, .ref b)]) X.1 X.2.1 (dk T_L_law_0 7 rfl) rfl hl (Nat.le_of_ble_eq_true rfl) rfl (fun ls hl => ?_)
  refine lv_iconst (v := 1) X.1 X.2.1 (dk T_L_law_0 8 rfl) ic_1 ?_
  refine narr (i := 4) (N' := 1) (a0 := (1, .inr (.inl (fun _ => 0)))) X Y (mw 0 6 rfl rfl) (by decide) (by decide) rfl (fun _ => rfl) (by decide) (by decide) (Nat.le_of_ble_eq_true rfl) (Nat.le_of_ble_eq_true rfl) (Nat.le_of_ble_eq_true rfl) (dk T_L_law_0 9 rfl) (fun o H Y => ?_)
  refine W.cs (cells' := 123) (slots' := 27898) rfl rfl ?_
  refine lv_astore_n (lv' := [(3, .ref o), (2, .ref mm), (1, .ref x), (0, .ref b)]) X.1 X.2.1 (dk T_L_law_0 10 rfl) rfl hl (Nat.le_of_ble_eq_true rfl) rfl (fun ls hl => ?_)
  refine lv_iconst (v := 1) X.1 X.2.1 (dk T_L_law_0 11 rfl) ic_1 ?_
  refine narr (i := 5) (N' := 1) (a0 := (1, .inr (.inr (.inr (.inl (fun _ => 0)))))) X Y (mw 0 7 rfl rfl) (by decide) (by decide) rfl (fun _ => rfl) (by decide) (by decide) (Nat.le_of_ble_eq_true rfl) (Nat.le_of_ble_eq_true rfl) (Nat.le_of_ble_eq_true rfl) (dk T_L_law_0 12 rfl) (fun od H Y => ?_)
  refine W.cs (cells' := 124) (slots' := 27899) rfl rfl ?_
  refine lv_astore (lv' := [(4, .ref od), (3, .ref o), (2, .ref mm), (1, .ref x), (0, .ref b)]) X.1 X.2.1 (dk T_L_law_0 13 rfl) hl (Nat.le_of_ble_eq_true rfl) rfl (fun ls hl => ?_)
  refine lv_iconst (v := 0) X.1 X.2.1 (dk T_L_law_0 14 rfl) ic_0 ?_
  refine lv_istore (lv' := [(5, .int 0), (4, .ref od), (3, .ref o), (2, .ref mm), (1, .ref x), (0, .ref b)]) X.1 X.2.1 (dk T_L_law_0 15 rfl) hl (Nat.le_of_ble_eq_true rfl) rfl (fun ls hl => ?_)
  obtain ⟨hP, hD, hS, hA⟩ := Y
  have hP' := start_P (g := g) (x := x) (m := mm) (o := o) (od := od) (u := u) (v := v) hP
  have hG := start_G (g := g) (x := x) (m := mm) (o := o) (od := od) (u := u) (v := v) hD
  have hAd := start_A (g := g) (x := x) (m := mm) (o := o) (od := od) (u := u) (v := v) hD
  have hnew : ∀ q, GA (gof g (adf x u mm v o od)) s.heap.size q → s.heap.size ≤ q := fun q hq => hq.elim (fun ⟨k, h1, h2⟩ => h2 ▸ hAd k h1) id
  obtain ⟨hx, hb, hml, hown, hts, hK, hO⟩ := X
  have hS' : va_S (GA (gof g (adf x u mm v o od)) s.heap.size) s.heap H locs := ⟨hS.1, fun q h1 h2 => hS.2.1 q h1 (fun h => h2 (Or.inr h)), fun q hq => Or.inr (hS.2.2 q hq)⟩
  exact law_loop (g := gof g (adf x u mm v o od)) ⟨hx, hb, hml, hr, hown, hts, hK, hG, hlk, hN⟩ (hT _ (fun a ha h => absurd (hnew a h) (Nat.not_le.mpr ha)) _) hst hX hbl hnew 514 (0, sg0) 124 27899 H locs ls (by decide) (by decide) ⟨hP', hS'⟩ (lv_sub hl [5, 4, 3, 2, 1, 0] rfl) h
