/-! PURE FACTS, 48: the call count -/
variable {k n len nr nf : Nat} {R V tx : Nat → Nat} {H : Nat → Nat → Nat} {hv : Bool} {rk rp fk fp : Nat → Int32} {σ τ : St}
def cellsN (R : Nat → Nat) (s : Nat) : Nat := sc R s * sr R s
theorem cells_C (T : ShR 1 R σ) (G : Good R) : f_X10_cellsOfAllSheets σ = some (nI (sm (cellsN R) (R 0))) := by
  have g0 := G.1
  unfold f_X10_cellsOfAllSheets f_X10_cellsOfAllSheets_0
  have hsz : f_X9_size 2 σ = some (nI (R 0)) := by rw [size_eq]; exact congrArg some T.2.1.2.1
  have := lp_ex (f := f_X10_cellsOfAllSheets_l4 σ) (fun i => (nI (sm (cellsN R) i), nI i)) (nI (sm (cellsN R) (R 0))) (R 0) (by omega) (fun i hi => by
    unfold f_X10_cellsOfAllSheets_l4
    dsimp only
    simp (disch := omega) only [bind_s, sum_l, sum_r, chkin, lit, nI_add, pk_mul, nI_clamp, nI_leI, nI_ltI, nI_eqI, nI_or, and1, shl1, shrx, nI_subx, pk_divx, pk_remx, nmod, nzx, if_tt, if_ff, bz_n1, bz_n0, nm1, nm2, wI_p, wI_inj, wI_n, nI_w, wI_ltI, wI_leI, nI_ltw, nI_lew, reduceIte, hsz, cellsOf_eq T G hi]
    rfl) (by
    unfold f_X10_cellsOfAllSheets_l4
    dsimp only
    simp (disch := omega) only [bind_s, sum_l, sum_r, chkin, lit, nI_add, pk_mul, nI_clamp, nI_leI, nI_ltI, nI_eqI, nI_or, and1, shl1, shrx, nI_subx, pk_divx, pk_remx, nmod, nzx, if_tt, if_ff, bz_n1, bz_n0, nm1, nm2, wI_p, wI_inj, wI_n, nI_w, wI_ltI, wI_leI, nI_ltw, nI_lew, reduceIte, hsz])
  have e0 : (nI (sm (cellsN R) 0), nI 0) = (nI 0, nI 0) := rfl
  rw [e0] at this
  simp (disch := omega) only [bind_s, sum_l, sum_r, chkin, lit, nI_add, pk_mul, nI_clamp, nI_leI, nI_ltI, nI_eqI, nI_or, and1, shl1, shrx, nI_subx, pk_divx, pk_remx, nmod, nzx, if_tt, if_ff, bz_n1, bz_n0, nm1, nm2, wI_p, wI_inj, wI_n, nI_w, wI_ltI, wI_leI, nI_ltw, nI_lew, reduceIte, this]
theorem cells_R (hR : σ 102 = rwN R) (G : Good R) : lp (f_X11_count_l75 σ) FU (nI 0, nI 0) = some (nI (sm (cellsN R) (R 0))) := by
  have g0 := G.1
  have := lp_ex (f := f_X11_count_l75 σ) (fun i => (nI (sm (cellsN R) i), nI i)) (nI (sm (cellsN R) (R 0))) (R 0) (by omega) (fun i hi => by
    unfold f_X11_count_l75
    dsimp only
    simp (disch := omega) only [bind_s, sum_l, sum_r, chkin, lit, nI_add, pk_mul, nI_clamp, nI_leI, nI_ltI, nI_eqI, nI_or, and1, shl1, shrx, nI_subx, pk_divx, pk_remx, nmod, nzx, if_tt, if_ff, bz_n1, bz_n0, nm1, nm2, wI_p, wI_inj, wI_n, nI_w, wI_ltI, wI_leI, nI_ltw, nI_lew, reduceIte, hR, rwN_a, cellsR_eq hR (show i < 6 by omega)]
    rfl) (by
    unfold f_X11_count_l75
    dsimp only
    simp (disch := omega) only [bind_s, sum_l, sum_r, chkin, lit, nI_add, pk_mul, nI_clamp, nI_leI, nI_ltI, nI_eqI, nI_or, and1, shl1, shrx, nI_subx, pk_divx, pk_remx, nmod, nzx, if_tt, if_ff, bz_n1, bz_n0, nm1, nm2, wI_p, wI_inj, wI_n, nI_w, wI_ltI, wI_leI, nI_ltw, nI_lew, reduceIte, hR, rwN_a])
  exact this
def cutsN (R : Nat → Nat) (s : Nat) : Nat := sm (cutf R s false) (sc R s * sr R s)
theorem cuts_C (T : ShR 1 R σ) (G : Good R) : f_X10_cutsOfAllSheets σ = some (nI (sm (cutsN R) (R 0))) := by
  have g0 := G.1
  unfold f_X10_cutsOfAllSheets f_X10_cutsOfAllSheets_0
  have hsz : f_X9_size 2 σ = some (nI (R 0)) := by rw [size_eq]; exact congrArg some T.2.1.2.1
  have := lp_ex (f := f_X10_cutsOfAllSheets_l4 σ) (fun i => (nI (sm (cutsN R) i), nI i)) (nI (sm (cutsN R) (R 0))) (R 0) (by omega) (fun i hi => by
    have hc : f_X8_cutsOn 1 (nI i) (nI 0) σ = some (nI (sm (cutf R i false) (sc R i * sr R i))) := cutsOn_eq T G hi false
    unfold f_X10_cutsOfAllSheets_l4
    dsimp only
    simp (disch := omega) only [bind_s, sum_l, sum_r, chkin, lit, nI_add, pk_mul, nI_clamp, nI_leI, nI_ltI, nI_eqI, nI_or, and1, shl1, shrx, nI_subx, pk_divx, pk_remx, nmod, nzx, if_tt, if_ff, bz_n1, bz_n0, nm1, nm2, wI_p, wI_inj, wI_n, nI_w, wI_ltI, wI_leI, nI_ltw, nI_lew, reduceIte, hsz, hc]
    rfl) (by
    unfold f_X10_cutsOfAllSheets_l4
    dsimp only
    simp (disch := omega) only [bind_s, sum_l, sum_r, chkin, lit, nI_add, pk_mul, nI_clamp, nI_leI, nI_ltI, nI_eqI, nI_or, and1, shl1, shrx, nI_subx, pk_divx, pk_remx, nmod, nzx, if_tt, if_ff, bz_n1, bz_n0, nm1, nm2, wI_p, wI_inj, wI_n, nI_w, wI_ltI, wI_leI, nI_ltw, nI_lew, reduceIte, hsz])
  have e0 : (nI (sm (cutsN R) 0), nI 0) = (nI 0, nI 0) := rfl
  rw [e0] at this
  simp (disch := omega) only [bind_s, sum_l, sum_r, chkin, lit, nI_add, pk_mul, nI_clamp, nI_leI, nI_ltI, nI_eqI, nI_or, and1, shl1, shrx, nI_subx, pk_divx, pk_remx, nmod, nzx, if_tt, if_ff, bz_n1, bz_n0, nm1, nm2, wI_p, wI_inj, wI_n, nI_w, wI_ltI, wI_leI, nI_ltw, nI_lew, reduceIte, this]
theorem cuts_R (hR : σ 102 = rwN R) (G : Good R) : ∃ τ, lp f_X11_count_l103 FU (nI 0, nI 0, σ) = some (nI (sm (cutsN R) (R 0)), τ) ∧ ∀ a, a ≠ 111 → τ a = σ a := by
  have g0 := G.1
  obtain ⟨r, q1, τ, rfl, q2⟩ := lp_fu (f := f_X11_count_l103) (fun i z => ∃ τ, z = (nI (sm (cutsN R) i), nI i, τ) ∧ ∀ a, a ≠ 111 → τ a = σ a) (fun r => ∃ τ, r = (nI (sm (cutsN R) (R 0)), τ) ∧ ∀ a, a ≠ 111 → τ a = σ a) (R 0) (by omega) (nI 0, nI 0, σ) ⟨σ, rfl, fun _ _ => rfl⟩ (by
    rintro i z hi ⟨τ, rfl, F⟩
    left
    have hR1 : τ 102 = rwN R := by rw [F 102 (by decide), hR]
    obtain ⟨row, e1, _⟩ := cutsR_eq hR1 G hi false (q := 1) (by decide)
    rw [← cut_same G hi false] at e1
    have e1' : f_X11_cutsOf (nI i) (nI 0) (wI 1) τ = some (nI (cutsN R i), upA τ 111 row) := e1
    refine ⟨(nI (sm (cutsN R) (i + 1)), nI (i + 1), upA τ 111 row), ?_, _, rfl, fun a ha => by rw [upA_ne _ _ ha, F a ha]⟩
    unfold f_X11_count_l103
    dsimp only
    simp (disch := omega) only [bind_s, sum_l, sum_r, chkin, lit, nI_add, pk_mul, nI_clamp, nI_leI, nI_ltI, nI_eqI, nI_or, and1, shl1, shrx, nI_subx, pk_divx, pk_remx, nmod, nzx, if_tt, if_ff, bz_n1, bz_n0, nm1, nm2, wI_p, wI_inj, wI_n, nI_w, wI_ltI, wI_leI, nI_ltw, nI_lew, reduceIte, hR1, rwN_a, e1']
    rfl) (by
    rintro z ⟨τ, rfl, F⟩
    have hR1 : τ 102 = rwN R := by rw [F 102 (by decide), hR]
    refine ⟨_, ?_, τ, rfl, F⟩
    unfold f_X11_count_l103
    dsimp only
    simp (disch := omega) only [bind_s, sum_l, sum_r, chkin, lit, nI_add, pk_mul, nI_clamp, nI_leI, nI_ltI, nI_eqI, nI_or, and1, shl1, shrx, nI_subx, pk_divx, pk_remx, nmod, nzx, if_tt, if_ff, bz_n1, bz_n0, nm1, nm2, wI_p, wI_inj, wI_n, nI_w, wI_ltI, wI_leI, nI_ltw, nI_lew, reduceIte, hR1, rwN_a])
  exact ⟨τ, q1, q2⟩
theorem call_count (I : Inv σ) (x1 : Int32) : Step (f_L_count x1) (f_X11_count x1) σ := by
  have I0 := I
  obtain ⟨R, n, H, hv, V, len, tx, nr, rk, rp, nf, fk, fp, G, S, c, cx, r, rx⟩ := I
  have hR := r.1
  rcases what_n x1 (N := 7) (by decide) with ⟨w, hw, rfl⟩ | hw
  · have ok : ∀ v, f_X10_count (nI w) σ = some (.inr (v, σ)) → (∀ υ, υ 102 = rwN R → υ 101 5 = nI n → υ 101 8 = nI len → ∃ τ', f_X11_count (nI w) υ = some (v, τ') ∧ Fr υ τ' ∧ τ' 101 0 = nI 0) → Step (f_L_count (nI w)) (f_X11_count (nI w)) σ := fun v h1 h2 =>
      step_ok I0 (L_count_0 h1) (Fc_r σ) (fun υ hυ => h2 υ (by rw [hυ 102 (by omega) (by omega), hR]) (by rw [hυ 101 (by omega) (by omega), r.2.1]) (by rw [hυ 101 (by omega) (by omega), rx.1]))
    have s2 : f_X9_size 2 σ = some (nI (R 0)) := by rw [size_eq]; exact congrArg some c.1.2.1.2.1
    have s4 : f_X9_size 4 σ = some (nI (R 1)) := by rw [size_eq]; exact congrArg some c.1.2.1.2.2.2.1
    have s6 : f_X9_size 6 σ = some (nI (R 2)) := by rw [size_eq]; exact congrArg some c.1.2.1.2.2.2.2.2
    have s5 : f_X2_size σ = some (nI n) := by
      obtain ⟨nx, hr⟩ := c.2.2.2.1
      exact congrArg some hr.2.2.2.1
    have sl : f_X6_length σ = some (nI len) := congrArg some cx.1
    have k0 : w = 0 ∨ w = 1 ∨ w = 2 ∨ w = 3 ∨ w = 4 ∨ w = 5 ∨ w = 6 := by omega
    rcases k0 with e | e | e | e | e | e | e <;> subst e
    · refine ok (nI (R 0)) ?_ (fun υ hυ _ _ => ⟨up υ 101 0 (nI 0), ?_, u0F _ _, up_s ..⟩)
      · unfold f_X10_count f_X10_count_0
        simp (disch := omega) only [bind_s, sum_l, sum_r, chkin, lit, nI_add, pk_mul, nI_clamp, nI_leI, nI_ltI, nI_eqI, nI_or, and1, shl1, shrx, nI_subx, pk_divx, pk_remx, nmod, nzx, if_tt, if_ff, bz_n1, bz_n0, nm1, nm2, wI_p, wI_inj, wI_n, nI_w, wI_ltI, wI_leI, nI_ltw, nI_lew, reduceIte, s2]
      · unfold f_X11_count f_X11_count_0
        simp (disch := omega) only [bind_s, sum_l, sum_r, chkin, lit, nI_add, pk_mul, nI_clamp, nI_leI, nI_ltI, nI_eqI, nI_or, and1, shl1, shrx, nI_subx, pk_divx, pk_remx, nmod, nzx, if_tt, if_ff, bz_n1, bz_n0, nm1, nm2, wI_p, wI_inj, wI_n, nI_w, wI_ltI, wI_leI, nI_ltw, nI_lew, reduceIte, u0R hυ, rwN_a]
    · refine ok (nI (R 1)) ?_ (fun υ hυ _ _ => ⟨up υ 101 0 (nI 0), ?_, u0F _ _, up_s ..⟩)
      · unfold f_X10_count f_X10_count_0
        simp (disch := omega) only [bind_s, sum_l, sum_r, chkin, lit, nI_add, pk_mul, nI_clamp, nI_leI, nI_ltI, nI_eqI, nI_or, and1, shl1, shrx, nI_subx, pk_divx, pk_remx, nmod, nzx, if_tt, if_ff, bz_n1, bz_n0, nm1, nm2, wI_p, wI_inj, wI_n, nI_w, wI_ltI, wI_leI, nI_ltw, nI_lew, reduceIte, s4]
      · unfold f_X11_count f_X11_count_0
        simp (disch := omega) only [bind_s, sum_l, sum_r, chkin, lit, nI_add, pk_mul, nI_clamp, nI_leI, nI_ltI, nI_eqI, nI_or, and1, shl1, shrx, nI_subx, pk_divx, pk_remx, nmod, nzx, if_tt, if_ff, bz_n1, bz_n0, nm1, nm2, wI_p, wI_inj, wI_n, nI_w, wI_ltI, wI_leI, nI_ltw, nI_lew, reduceIte, u0R hυ, rwN_a]
    · refine ok (nI (R 2)) ?_ (fun υ hυ _ _ => ⟨up υ 101 0 (nI 0), ?_, u0F _ _, up_s ..⟩)
      · unfold f_X10_count f_X10_count_0
        simp (disch := omega) only [bind_s, sum_l, sum_r, chkin, lit, nI_add, pk_mul, nI_clamp, nI_leI, nI_ltI, nI_eqI, nI_or, and1, shl1, shrx, nI_subx, pk_divx, pk_remx, nmod, nzx, if_tt, if_ff, bz_n1, bz_n0, nm1, nm2, wI_p, wI_inj, wI_n, nI_w, wI_ltI, wI_leI, nI_ltw, nI_lew, reduceIte, s6]
      · unfold f_X11_count f_X11_count_0
        simp (disch := omega) only [bind_s, sum_l, sum_r, chkin, lit, nI_add, pk_mul, nI_clamp, nI_leI, nI_ltI, nI_eqI, nI_or, and1, shl1, shrx, nI_subx, pk_divx, pk_remx, nmod, nzx, if_tt, if_ff, bz_n1, bz_n0, nm1, nm2, wI_p, wI_inj, wI_n, nI_w, wI_ltI, wI_leI, nI_ltw, nI_lew, reduceIte, u0R hυ, rwN_a]
    · refine ok (nI (sm (cellsN R) (R 0))) ?_ (fun υ hυ _ _ => ⟨up υ 101 0 (nI 0), ?_, u0F _ _, up_s ..⟩)
      · unfold f_X10_count f_X10_count_0
        simp (disch := omega) only [bind_s, sum_l, sum_r, chkin, lit, nI_add, pk_mul, nI_clamp, nI_leI, nI_ltI, nI_eqI, nI_or, and1, shl1, shrx, nI_subx, pk_divx, pk_remx, nmod, nzx, if_tt, if_ff, bz_n1, bz_n0, nm1, nm2, wI_p, wI_inj, wI_n, nI_w, wI_ltI, wI_leI, nI_ltw, nI_lew, reduceIte, cells_C c.1 G]
      · unfold f_X11_count f_X11_count_0
        simp (disch := omega) only [bind_s, sum_l, sum_r, chkin, lit, nI_add, pk_mul, nI_clamp, nI_leI, nI_ltI, nI_eqI, nI_or, and1, shl1, shrx, nI_subx, pk_divx, pk_remx, nmod, nzx, if_tt, if_ff, bz_n1, bz_n0, nm1, nm2, wI_p, wI_inj, wI_n, nI_w, wI_ltI, wI_leI, nI_ltw, nI_lew, reduceIte, cells_R (u0R hυ (nI 0)) G]
    · refine ok (nI (sm (cutsN R) (R 0))) ?_ (fun υ hυ _ _ => ?_)
      · unfold f_X10_count f_X10_count_0
        simp (disch := omega) only [bind_s, sum_l, sum_r, chkin, lit, nI_add, pk_mul, nI_clamp, nI_leI, nI_ltI, nI_eqI, nI_or, and1, shl1, shrx, nI_subx, pk_divx, pk_remx, nmod, nzx, if_tt, if_ff, bz_n1, bz_n0, nm1, nm2, wI_p, wI_inj, wI_n, nI_w, wI_ltI, wI_leI, nI_ltw, nI_lew, reduceIte, cuts_C c.1 G]
      · obtain ⟨τ', e1, e2⟩ := cuts_R (u0R hυ (nI 0)) G
        refine ⟨τ', ?_, Fr_t (u0F υ (nI 0)) ⟨fun a h1 h2 h3 => e2 a (by omega), fun j _ => by rw [e2 101 (by decide)]⟩, by rw [e2 101 (by decide), up_s]⟩
        unfold f_X11_count f_X11_count_0
        simp (disch := omega) only [bind_s, sum_l, sum_r, chkin, lit, nI_add, pk_mul, nI_clamp, nI_leI, nI_ltI, nI_eqI, nI_or, and1, shl1, shrx, nI_subx, pk_divx, pk_remx, nmod, nzx, if_tt, if_ff, bz_n1, bz_n0, nm1, nm2, wI_p, wI_inj, wI_n, nI_w, wI_ltI, wI_leI, nI_ltw, nI_lew, reduceIte, e1]
    · refine ok (nI n) ?_ (fun υ hυ h5 _ => ⟨up υ 101 0 (nI 0), ?_, u0F _ _, up_s ..⟩)
      · unfold f_X10_count f_X10_count_0
        simp (disch := omega) only [bind_s, sum_l, sum_r, chkin, lit, nI_add, pk_mul, nI_clamp, nI_leI, nI_ltI, nI_eqI, nI_or, and1, shl1, shrx, nI_subx, pk_divx, pk_remx, nmod, nzx, if_tt, if_ff, bz_n1, bz_n0, nm1, nm2, wI_p, wI_inj, wI_n, nI_w, wI_ltI, wI_leI, nI_ltw, nI_lew, reduceIte, s5]
      · have e : (up υ 101 0 (nI 0)) 101 5 = nI n := by rw [up_j _ _ _ (by decide), h5]
        unfold f_X11_count f_X11_count_0
        simp (disch := omega) only [bind_s, sum_l, sum_r, chkin, lit, nI_add, pk_mul, nI_clamp, nI_leI, nI_ltI, nI_eqI, nI_or, and1, shl1, shrx, nI_subx, pk_divx, pk_remx, nmod, nzx, if_tt, if_ff, bz_n1, bz_n0, nm1, nm2, wI_p, wI_inj, wI_n, nI_w, wI_ltI, wI_leI, nI_ltw, nI_lew, reduceIte, e]
    · refine ok (nI len) ?_ (fun υ hυ _ h8 => ⟨up υ 101 0 (nI 0), ?_, u0F _ _, up_s ..⟩)
      · unfold f_X10_count f_X10_count_0
        simp (disch := omega) only [bind_s, sum_l, sum_r, chkin, lit, nI_add, pk_mul, nI_clamp, nI_leI, nI_ltI, nI_eqI, nI_or, and1, shl1, shrx, nI_subx, pk_divx, pk_remx, nmod, nzx, if_tt, if_ff, bz_n1, bz_n0, nm1, nm2, wI_p, wI_inj, wI_n, nI_w, wI_ltI, wI_leI, nI_ltw, nI_lew, reduceIte, sl]
      · have e : (up υ 101 0 (nI 0)) 101 8 = nI len := by rw [up_j _ _ _ (by decide), h8]
        unfold f_X11_count f_X11_count_0
        simp (disch := omega) only [bind_s, sum_l, sum_r, chkin, lit, nI_add, pk_mul, nI_clamp, nI_leI, nI_ltI, nI_eqI, nI_or, and1, shl1, shrx, nI_subx, pk_divx, pk_remx, nmod, nzx, if_tt, if_ff, bz_n1, bz_n0, nm1, nm2, wI_p, wI_inj, wI_n, nI_w, wI_ltI, wI_leI, nI_ltw, nI_lew, reduceIte, e]
  · refine step_no I0 (L_count_1 ?_) (by decide) ?_
    · unfold f_X10_count f_X10_count_0
      simp only [lit, hw 0 (by decide), hw 1 (by decide), hw 2 (by decide), hw 3 (by decide), hw 4 (by decide), hw 5 (by decide), hw 6 (by decide), if_false]
    · unfold f_X11_count f_X11_count_0
      simp only [lit, hw 0 (by decide), hw 1 (by decide), hw 2 (by decide), hw 3 (by decide), hw 4 (by decide), hw 5 (by decide), hw 6 (by decide), if_false, fails_eq, bind_s]
