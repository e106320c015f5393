/-! THE WHOLE, out of the fact on pure functions: what the Statement gives of the start -/
theorem W0_in : ∀ w ∈ W0, w ∈ lw_tbl := fun w h => by obtain ⟨c, hc, hw⟩ := List.mem_flatten.mp h; exact W0s_in c hc w hw
set_option maxRecDepth 100000 in
theorem NFl_in : ∀ q ∈ NFl, Cond.fieldLinkNest q.1 q.2.1 q.2.2.1 q.2.2.2.1 q.2.2.2.2 "SheetNester" ∈ lw_tbl := by decide +kernel
set_option maxRecDepth 100000 in
theorem NMl_in : ∀ q ∈ NMl, Cond.methodLinkNest q.1 q.2.1 q.2.2 "SheetNester" ∈ lw_tbl := by decide +kernel
set_option maxRecDepth 100000 in
theorem STRl_in : ∀ q ∈ STRl, Cond.stringRef q.1 q.2.1 q.2.2 ∈ lw_tbl := by decide +kernel
set_option maxRecDepth 100000 in
theorem STRl_ex : ∀ q ∈ STRl, Cond.exactly (.string q.1 q.2.1) "java/lang/String" ∈ flatC (Jvm.Cond.and given_1 narrow_1) := by decide +kernel
set_option maxRecDepth 100000 in
theorem XCl_in : ∀ E ∈ XCl, Cond.castable E E ∈ lw_tbl := by decide +kernel
set_option maxRecDepth 100000 in
theorem DCl_in : ∀ y ∈ DCl, Cond.declares y ∈ lw_tbl := by decide +kernel
set_option maxRecDepth 100000 in
theorem NCl_in : ∀ q ∈ NCl, Cond.not (.castable q.1 q.2) ∈ flatC (Jvm.Cond.and given_1 narrow_1) := by decide +kernel
theorem str_at {s : State} {args : Array Value} {own : String} {k : Nat} (h : (Cond.exactly (.string own k) "java/lang/String").before args s = true) : ∃ a, (Term.string own k).eval args s none [] s = some (.ref a) := by
  obtain ⟨a, _, _, _, h1, -⟩ := Cond.exactly_spec h
  exact ⟨a, h1⟩
theorem str_R {s : State} {args : Array Value} {own tx : String} {k a : Nat} (h1 : (Cond.stringRef own k tx).before args s = true) (h2 : (Term.string own k).eval args s none [] s = some (.ref a)) : vk_R own k tx a s := ⟨h1, h2⟩
theorem arr_K {s : State} {args : Array Value} {ty : FieldType} (h : (Cond.arrayClass ty).before args s = true) : ∃ cA, ArrOfT s cA ty ∧ s.vm.findClass ("[" ++ ty.toString) = some cA := by
  obtain ⟨cA, kA, comp, h1, h2, h3⟩ := Cond.arrayClass_spec h
  exact ⟨cA, fun n z => ⟨fun k h => (by cases h), kA, h2, comp, h3⟩, h1⟩
theorem arr_Q {s : State} (h : va_AO "SheetNester$Shop" s) : ∃ cA, ArrOfT s cA (.object "SheetNester$Shop") ∧ va_RA s cA (.object "SheetNester$Shop") := by
  obtain ⟨comp, cA, kA, h1, h2, h3, h4, h5⟩ := Cond.arrayOver_spec h
  exact ⟨cA, fun n z => ⟨fun k h => (by cases h), kA, h3, comp, h4⟩, kA, comp, h3, h4, h1, h5⟩
set_option maxHeartbeats 4000000 in
set_option maxRecDepth 100000 in
theorem whole_open (hpure : LawPure) {p : Program} {e : Env} {s : State} {m : MethodId} {below : List Frame} {meth : Method} {c : Code} (l : Launch) (hflags : l.flags = flags0) {b L : Nat} {xs : Nat → Int32} (hL : L ≤ 3072) (C0 : lw_At p s m meth c b L xs) : W p l e room_1 s m #[Value.ref b] below meth c s.heap [] 0 0 (lw_Z below #[Value.ref b] s) (entryFrame m ([Value.ref b] : List Value).toArray 8) := by
  obtain ⟨hx, hb, hr, hml, hown, hts, hX, hbl, hlocks, hgv⟩ := id C0
  have hW0 : ∀ w ∈ W0, w.before #[Value.ref b] s = true := fun w h => hts w (W0_in w h)
  have hfl := flat_of_before _ hgv
  have hst : l.stackTraces = false := by
    unfold Launch.stackTraces
    rw [hflags]
    decide +kernel
  have hN : NWs s := ⟨fun q hq => va_Nw.of rfl (hts _ (NFl_in q hq)), fun q hq => va_Nw.of rfl (hts _ (NMl_in q hq))⟩
  have hO : va_AO "SheetNester$Shop" s := va_AO.of (hts (.arrayOver (.object "SheetNester$Shop")) (by decide +kernel))
  have hT : ∀ A : Nat → Prop, (∀ a : Nat, a < s.heap.size → ¬ A a) → ∀ g : Geo, TXs g A s s.heap := by
    intro A hA g
    refine ⟨vx_Zqof (hts (.laysStatic Bundle.tN "UNASSIGNED_STACK" Bundle.steD) (by decide +kernel)) (hts (.initialized Bundle.tN) (by decide +kernel)) (hfl (.isRef (.static Bundle.tN "UNASSIGNED_STACK" Bundle.steD)) (by decide +kernel)) hA, vx_Zqof (hts (.laysStatic Bundle.tN "SUPPRESSED_SENTINEL" Bundle.listD) (by decide +kernel)) (hts (.initialized Bundle.tN) (by decide +kernel)) (hfl (.isRef (.static Bundle.tN "SUPPRESSED_SENTINEL" Bundle.listD)) (by decide +kernel)) hA, fun q hq => ?_, fun E hE => va_Nw.of rfl (hts _ (XCl_in E hE)), fun y hy => va_Nw.of rfl (hts _ (DCl_in y hy)), fun q hq => va_Nc.of (hfl _ (NCl_in q hq))⟩
    have h1 := hts _ (STRl_in q hq)
    obtain ⟨a, h2⟩ := str_at (hfl _ (STRl_ex q hq))
    exact ⟨a, str_R h1 h2⟩
  obtain ⟨c0, i0, hk0⟩ := u_known (C := RX0) (T := TX0) (N := 3) (n := 3) hW0 (mwl 43 rfl) (hW0 _ (mw 0 25 rfl rfl))
  obtain ⟨c1, i1, hk1⟩ := u_known (C := RX0) (T := TX0) (N := 3) (n := 3) hW0 (mwl 43 rfl) (hW0 _ (mw 0 25 rfl rfl))
  obtain ⟨c2, i2, hk2⟩ := u_known (C := RX0) (T := TX0) (N := 3) (n := 3) hW0 (mwl 43 rfl) (hW0 _ (mw 0 25 rfl rfl))
  obtain ⟨c3, i3, hk3⟩ := u_known (C := RX1) (T := TX1) (N := 3) (n := 3) hW0 (mwl 44 rfl) (hW0 _ (mw 0 30 rfl rfl))
  obtain ⟨c4, i4, hk4⟩ := u_known (C := RX2) (T := TX2) (N := 3) (n := 3) hW0 (mwl 45 rfl) (hW0 _ (mw 0 21 rfl rfl))
  obtain ⟨c5, i5, hk5⟩ := u_known (C := RX4) (T := TX4) (N := 11) (n := 11) hW0 (mwl 46 rfl) (hW0 _ (mw 1 6 rfl rfl))
  obtain ⟨c6, i6, hk6⟩ := u_known (C := RX5) (T := TX5) (N := 9) (n := 9) hW0 (mwl 47 rfl) (hW0 _ (mw 1 10 rfl rfl))
  obtain ⟨c7, i7, hk7⟩ := u_known (C := RX6) (T := TX6) (N := 15) (n := 15) hW0 (mwl 48 rfl) (hW0 _ (mw 1 14 rfl rfl))
  obtain ⟨c8, i8, hk8⟩ := u_known (C := RX7) (T := TX7) (N := 6) (n := 6) hW0 (mwl 49 rfl) (hW0 _ (mw 1 2 rfl rfl))
  obtain ⟨c9, i9, hk9⟩ := u_known (C := RX8) (T := TX8) (N := 3) (n := 3) hW0 (mwl 50 rfl) (hW0 _ (mw 0 15 rfl rfl))
  obtain ⟨c10, i10, hk10⟩ := u_known (C := RX9) (T := TX9) (N := 3) (n := 3) hW0 (mwl 51 rfl) (hW0 _ (mw 1 23 rfl rfl))
  obtain ⟨c11, i11, hk11⟩ := u_known (C := RX10) (T := TX10) (N := 12) (n := 12) hW0 (mwl 52 rfl) (hW0 _ (mw 0 1 rfl rfl))
  obtain ⟨c12, i12, hk12⟩ := u_known (C := RX11) (T := TX11) (N := 48) (n := 48) hW0 (mwl 53 rfl) (hW0 _ (mw 0 4 rfl rfl))
  obtain ⟨dC, dI, hKc⟩ : ∃ (dC : Nat → ClassId) (dI : Nat → Nat → Nat), ∀ (k : Nat) (q : vw_C), vwCl[k]? = some q → u_Kn s q.1 q.2.1 q.2.2 (dC k) (dI k) := by
    refine ⟨fun k => [c0, c1, c2, c3, c4, c5, c6, c7, c8, c9, c10, c11, c12].getD k c0, fun k => [i0, i1, i2, i3, i4, i5, i6, i7, i8, i9, i10, i11, i12].getD k i0, ?_⟩
    intro k q hq
    match k, hq with
    | 0, hq => cases hq; exact hk0
    | 1, hq => cases hq; exact hk1
    | 2, hq => cases hq; exact hk2
    | 3, hq => cases hq; exact hk3
    | 4, hq => cases hq; exact hk4
    | 5, hq => cases hq; exact hk5
    | 6, hq => cases hq; exact hk6
    | 7, hq => cases hq; exact hk7
    | 8, hq => cases hq; exact hk8
    | 9, hq => cases hq; exact hk9
    | 10, hq => cases hq; exact hk10
    | 11, hq => cases hq; exact hk11
    | 12, hq => cases hq; exact hk12
    | k + 13, hq => simp [vwCl] at hq
  obtain ⟨y0, ya0, yb0⟩ := arr_K (hW0 _ (mw 2 1 rfl rfl))
  obtain ⟨y1, ya1, yb1⟩ := arr_K (hW0 _ (mw 4 2 rfl rfl))
  obtain ⟨y2, ya2, yb2⟩ := arr_K (hW0 _ (mw 4 24 rfl rfl))
  obtain ⟨y4, ya4, yb4⟩ := arr_K (hW0 _ (mw 0 6 rfl rfl))
  obtain ⟨y5, ya5, yb5⟩ := arr_K (hW0 _ (mw 0 7 rfl rfl))
  obtain ⟨y3, ya3, yb3⟩ := arr_Q hO
  obtain ⟨g, hg⟩ : ∃ g : Geo, g = ((dC, dI), (fun i => [y0, y1, y2, y3, y4, y5].getD i y0), fun _ => 0) := ⟨_, rfl⟩
  have hK : va_K g.1 vwCl (tys g) s := by
    subst hg
    refine ⟨hKc, fun k q hq => ?_⟩
    match k, hq with
    | 0, hq => cases hq; exact ⟨ya0, yb0⟩
    | 1, hq => cases hq; exact ⟨ya1, yb1⟩
    | 2, hq => cases hq; exact ⟨ya2, yb2⟩
    | 3, hq => cases hq; exact ⟨ya3, yb3⟩
    | 4, hq => cases hq; exact ⟨ya4, yb4⟩
    | 5, hq => cases hq; exact ⟨ya5, yb5⟩
    | k + 6, hq => simp [tys] at hq
  obtain ⟨τ, hτ⟩ := hpure xs L hL
  exact law_entry (g := g) ⟨hx, hb, hml, hown, hW0, hK, hO⟩ hr hlocks hN hT hst hX hbl hτ
