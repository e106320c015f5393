/-! PURE FACTS, 29: more simple calls -/
variable {k n len nr nf : Nat} {R V tx : Nat → Nat} {H : Nat → Nat → Nat} {hv : Bool} {rk rp fk fp : Nat → Int32} {σ τ : St}
theorem what_n (x : Int32) {N : Nat} (hN : N < 2 ^ 20) : (∃ j, j < N ∧ x = nI j) ∨ (∀ j, j < N → (x = nI j) = False) := by
  rcases int_n x (n := N) (by omega) with h | h
  · exact Or.inl h
  · exact Or.inr (fun j hj => out_ne h hN hj)
theorem call_turned (I : Inv σ) (x1 x2 : Int32) : Step (f_L_turned x1 x2) (f_X11_turned x1 x2) σ := by
  have I0 := I
  obtain ⟨R, n, H, hv, V, len, tx, nr, rk, rp, nf, fk, fp, G, S, c, cx, r, rx⟩ := I
  have hR := r.1
  have g1 := G.2.1
  rcases int_n x1 (n := R 1) (by omega) with ⟨h, hh, rfl⟩ | hx
  · have hH := GH G hh
    rcases rng x2 (a := 0) (b := 3) (by decide) (by decide) with ⟨t, t1, t2, rfl⟩ | ht
    · refine step_ok I0 (L_turned_0 (v := nI (tm R h t)) (τ := σ) ?_) (Fc_r σ) (fun υ hυ => ?_)
      · unfold f_X10_turned f_X10_turned_0 f_X10_checkTurn f_X10_checkTurn_0
        simp (disch := omega) only [bind_s, sum_l, sum_r, chkin, lit, nI_add, pk_mul, nI_clamp, nI_leI, nI_ltI, nI_eqI, nI_or, and1, shl1, shrx, nI_subx, pk_divx, pk_remx, nmod, nzx, if_tt, if_ff, bz_n1, bz_n0, nm1, nm2, wI_p, wI_inj, wI_n, nI_w, wI_ltI, wI_leI, nI_ltw, nI_lew, reduceIte, ckH_in c.1 G hh, wi_in t1 t2, coveredAfter_eq c.1 G hh]
      · have hR1 : υ 102 = rwN R := by rw [hυ 102 (by omega) (by omega), hR]
        refine ⟨up υ 101 0 (nI 0), ?_, u0F _ _, up_s ..⟩
        unfold f_X11_turned f_X11_turned_0
        simp (disch := omega) only [bind_s, sum_l, sum_r, chkin, lit, nI_add, pk_mul, nI_clamp, nI_leI, nI_ltI, nI_eqI, nI_or, and1, shl1, shrx, nI_subx, pk_divx, pk_remx, nmod, nzx, if_tt, if_ff, bz_n1, bz_n0, nm1, nm2, wI_p, wI_inj, wI_n, nI_w, wI_ltI, wI_leI, nI_ltw, nI_lew, reduceIte, isShape_in (u0R hR1 _) G hh, ri_in, tmR_eq (u0R hR1 _) hH.1 hH.2.1]
    · refine step_no I0 (L_turned_2 ?_) (by decide) ?_
      · unfold f_X10_turned f_X10_turned_0 f_X10_checkTurn f_X10_checkTurn_0
        simp (disch := omega) only [bind_s, sum_l, sum_r, chkin, lit, nI_add, pk_mul, nI_clamp, nI_leI, nI_ltI, nI_eqI, nI_or, and1, shl1, shrx, nI_subx, pk_divx, pk_remx, nmod, nzx, if_tt, if_ff, bz_n1, bz_n0, nm1, nm2, wI_p, wI_inj, wI_n, nI_w, wI_ltI, wI_leI, nI_ltw, nI_lew, reduceIte, ckH_in c.1 G hh, wi_out ht]
      · unfold f_X11_turned f_X11_turned_0
        simp (disch := omega) only [bind_s, sum_l, sum_r, chkin, lit, nI_add, pk_mul, nI_clamp, nI_leI, nI_ltI, nI_eqI, nI_or, and1, shl1, shrx, nI_subx, pk_divx, pk_remx, nmod, nzx, if_tt, if_ff, bz_n1, bz_n0, nm1, nm2, wI_p, wI_inj, wI_n, nI_w, wI_ltI, wI_leI, nI_ltw, nI_lew, reduceIte, isShape_in (u0R hR _) G hh, ri_out ht, fails_eq]
  · refine step_no I0 (L_turned_1 ?_) (by decide) ?_
    · unfold f_X10_turned f_X10_turned_0
      simp (disch := omega) only [bind_s, sum_l, sum_r, chkin, lit, nI_add, pk_mul, nI_clamp, nI_leI, nI_ltI, nI_eqI, nI_or, and1, shl1, shrx, nI_subx, pk_divx, pk_remx, nmod, nzx, if_tt, if_ff, bz_n1, bz_n0, nm1, nm2, wI_p, wI_inj, wI_n, nI_w, wI_ltI, wI_leI, nI_ltw, nI_lew, reduceIte, ckH_out c.1 hx]
    · unfold f_X11_turned f_X11_turned_0
      simp (disch := omega) only [bind_s, sum_l, sum_r, chkin, lit, nI_add, pk_mul, nI_clamp, nI_leI, nI_ltI, nI_eqI, nI_or, and1, shl1, shrx, nI_subx, pk_divx, pk_remx, nmod, nzx, if_tt, if_ff, bz_n1, bz_n0, nm1, nm2, wI_p, wI_inj, wI_n, nI_w, wI_ltI, wI_leI, nI_ltw, nI_lew, reduceIte, isShape_out (u0R hR _) G hx, fails_eq]
theorem call_shape (I : Inv σ) (x1 x2 : Int32) : Step (f_L_shape x1 x2) (f_X11_shape x1 x2) σ := by
  have I0 := I
  obtain ⟨R, n, H, hv, V, len, tx, nr, rk, rp, nf, fk, fp, G, S, c, cx, r, rx⟩ := I
  have hR := r.1
  have g1 := G.2.1
  rcases int_n x1 (n := R 1) (by omega) with ⟨h, hh, rfl⟩ | hx
  · have hH := GH G hh
    obtain ⟨y0, y1, y2, y3, y4, y5⟩ := c.1.2.2.2.1 h hh
    rcases what_n x2 (N := 8) (by decide) with ⟨w, hw, rfl⟩ | hw
    · have ok : ∀ v, f_X10_shape (nI h) (nI w) σ = some (.inr (v, σ)) → (∀ υ, υ 102 = rwN R → f_X11_shape (nI h) (nI w) υ = some (v, up υ 101 0 (nI 0))) → Step (f_L_shape (nI h) (nI w)) (f_X11_shape (nI h) (nI w)) σ := fun v h1 h2 =>
        step_ok I0 (L_shape_0 h1) (Fc_r σ) (fun υ hυ => ⟨up υ 101 0 (nI 0), h2 υ (by rw [hυ 102 (by omega) (by omega), hR]), u0F _ _, up_s ..⟩)
      have hg : ∀ f, h * 9 + f < 72 → f_X9_get 4 (nI h) (nI f) σ = some (σ 5 (h * 9 + f)) := fun f hf => hg_eq c.1 hf
      have hsz := sizeOf_eq c.1 G hh
      have hrw := (rowsWith_eq c.1 G (v := h) (by omega)).2
      have hrw' : f_X9_rowsWith 6 (nI 0) (nI h) σ = some (nI (cnt (fun p => decide (R (661 + p) = h)) (R 2))) := hrw
      have hdf := diffC_eq c.1 G hh
      have hsh : ∀ υ, υ 102 = rwN R → f_X11_isShape (nI h) (up υ 101 0 (nI 0)) = some (nI 1) := fun υ h => isShape_in (u0R h _) G hh
      have k0 : w = 0 ∨ w = 1 ∨ w = 2 ∨ w = 3 ∨ w = 4 ∨ w = 5 ∨ w = 6 ∨ w = 7 := by omega
      rcases k0 with e | e | e | e | e | e | e | e <;> subst e
      · refine ok (nI (R (621 + h))) ?_ (fun υ hυ => ?_)
        · unfold f_X10_shape f_X10_shape_0 f_X10_shape_j52
          simp (disch := omega) only [bind_s, sum_l, sum_r, chkin, lit, nI_add, pk_mul, nI_clamp, nI_leI, nI_ltI, nI_eqI, nI_or, and1, shl1, shrx, nI_subx, pk_divx, pk_remx, nmod, nzx, if_tt, if_ff, bz_n1, bz_n0, nm1, nm2, wI_p, wI_inj, wI_n, nI_w, wI_ltI, wI_leI, nI_ltw, nI_lew, reduceIte, ckH_in c.1 G hh, hg, n01]
          exact congrArg (fun q => some (Sum.inr (q, σ))) y0
        · unfold f_X11_shape f_X11_shape_0
          simp (disch := omega) only [bind_s, sum_l, sum_r, chkin, lit, nI_add, pk_mul, nI_clamp, nI_leI, nI_ltI, nI_eqI, nI_or, and1, shl1, shrx, nI_subx, pk_divx, pk_remx, nmod, nzx, if_tt, if_ff, bz_n1, bz_n0, nm1, nm2, wI_p, wI_inj, wI_n, nI_w, wI_ltI, wI_leI, nI_ltw, nI_lew, reduceIte, hsh υ hυ, u0R hυ, rwN_a]
      · refine ok (nI (R (629 + h))) ?_ (fun υ hυ => ?_)
        · unfold f_X10_shape f_X10_shape_0 f_X10_shape_j52
          simp (disch := omega) only [bind_s, sum_l, sum_r, chkin, lit, nI_add, pk_mul, nI_clamp, nI_leI, nI_ltI, nI_eqI, nI_or, and1, shl1, shrx, nI_subx, pk_divx, pk_remx, nmod, nzx, if_tt, if_ff, bz_n1, bz_n0, nm1, nm2, wI_p, wI_inj, wI_n, nI_w, wI_ltI, wI_leI, nI_ltw, nI_lew, reduceIte, ckH_in c.1 G hh, hg]
          exact congrArg (fun q => some (Sum.inr (q, σ))) y1
        · unfold f_X11_shape f_X11_shape_0
          simp (disch := omega) only [bind_s, sum_l, sum_r, chkin, lit, nI_add, pk_mul, nI_clamp, nI_leI, nI_ltI, nI_eqI, nI_or, and1, shl1, shrx, nI_subx, pk_divx, pk_remx, nmod, nzx, if_tt, if_ff, bz_n1, bz_n0, nm1, nm2, wI_p, wI_inj, wI_n, nI_w, wI_ltI, wI_leI, nI_ltw, nI_lew, reduceIte, hsh υ hυ, u0R hυ, rwN_a]
      · refine ok (nI (R (637 + h))) ?_ (fun υ hυ => ?_)
        · unfold f_X10_shape f_X10_shape_0 f_X10_shape_j52
          simp (disch := omega) only [bind_s, sum_l, sum_r, chkin, lit, nI_add, pk_mul, nI_clamp, nI_leI, nI_ltI, nI_eqI, nI_or, and1, shl1, shrx, nI_subx, pk_divx, pk_remx, nmod, nzx, if_tt, if_ff, bz_n1, bz_n0, nm1, nm2, wI_p, wI_inj, wI_n, nI_w, wI_ltI, wI_leI, nI_ltw, nI_lew, reduceIte, ckH_in c.1 G hh, hg]
          exact congrArg (fun q => some (Sum.inr (q, σ))) y2
        · unfold f_X11_shape f_X11_shape_0
          simp (disch := omega) only [bind_s, sum_l, sum_r, chkin, lit, nI_add, pk_mul, nI_clamp, nI_leI, nI_ltI, nI_eqI, nI_or, and1, shl1, shrx, nI_subx, pk_divx, pk_remx, nmod, nzx, if_tt, if_ff, bz_n1, bz_n0, nm1, nm2, wI_p, wI_inj, wI_n, nI_w, wI_ltI, wI_leI, nI_ltw, nI_lew, reduceIte, hsh υ hυ, u0R hυ, rwN_a]
      · refine ok (nI (R (645 + h))) ?_ (fun υ hυ => ?_)
        · unfold f_X10_shape f_X10_shape_0 f_X10_shape_j52
          simp (disch := omega) only [bind_s, sum_l, sum_r, chkin, lit, nI_add, pk_mul, nI_clamp, nI_leI, nI_ltI, nI_eqI, nI_or, and1, shl1, shrx, nI_subx, pk_divx, pk_remx, nmod, nzx, if_tt, if_ff, bz_n1, bz_n0, nm1, nm2, wI_p, wI_inj, wI_n, nI_w, wI_ltI, wI_leI, nI_ltw, nI_lew, reduceIte, ckH_in c.1 G hh, hg]
          exact congrArg (fun q => some (Sum.inr (q, σ))) y3
        · unfold f_X11_shape f_X11_shape_0
          simp (disch := omega) only [bind_s, sum_l, sum_r, chkin, lit, nI_add, pk_mul, nI_clamp, nI_leI, nI_ltI, nI_eqI, nI_or, and1, shl1, shrx, nI_subx, pk_divx, pk_remx, nmod, nzx, if_tt, if_ff, bz_n1, bz_n0, nm1, nm2, wI_p, wI_inj, wI_n, nI_w, wI_ltI, wI_leI, nI_ltw, nI_lew, reduceIte, hsh υ hυ, u0R hυ, rwN_a]
      · refine ok (nI (R (653 + h))) ?_ (fun υ hυ => ?_)
        · unfold f_X10_shape f_X10_shape_0 f_X10_shape_j52
          simp (disch := omega) only [bind_s, sum_l, sum_r, chkin, lit, nI_add, pk_mul, nI_clamp, nI_leI, nI_ltI, nI_eqI, nI_or, and1, shl1, shrx, nI_subx, pk_divx, pk_remx, nmod, nzx, if_tt, if_ff, bz_n1, bz_n0, nm1, nm2, wI_p, wI_inj, wI_n, nI_w, wI_ltI, wI_leI, nI_ltw, nI_lew, reduceIte, ckH_in c.1 G hh, hg]
          exact congrArg (fun q => some (Sum.inr (q, σ))) y4
        · unfold f_X11_shape f_X11_shape_0
          simp (disch := omega) only [bind_s, sum_l, sum_r, chkin, lit, nI_add, pk_mul, nI_clamp, nI_leI, nI_ltI, nI_eqI, nI_or, and1, shl1, shrx, nI_subx, pk_divx, pk_remx, nmod, nzx, if_tt, if_ff, bz_n1, bz_n0, nm1, nm2, wI_p, wI_inj, wI_n, nI_w, wI_ltI, wI_leI, nI_ltw, nI_lew, reduceIte, hsh υ hυ, u0R hυ, rwN_a]
      · refine ok (nI (pcn (R (637 + h)))) ?_ (fun υ hυ => ?_)
        · unfold f_X10_shape f_X10_shape_0
          simp (disch := omega) only [bind_s, sum_l, sum_r, chkin, lit, nI_add, pk_mul, nI_clamp, nI_leI, nI_ltI, nI_eqI, nI_or, and1, shl1, shrx, nI_subx, pk_divx, pk_remx, nmod, nzx, if_tt, if_ff, bz_n1, bz_n0, nm1, nm2, wI_p, wI_inj, wI_n, nI_w, wI_ltI, wI_leI, nI_ltw, nI_lew, reduceIte, ckH_in c.1 G hh, hsz]
        · unfold f_X11_shape f_X11_shape_0
          simp (disch := omega) only [bind_s, sum_l, sum_r, chkin, lit, nI_add, pk_mul, nI_clamp, nI_leI, nI_ltI, nI_eqI, nI_or, and1, shl1, shrx, nI_subx, pk_divx, pk_remx, nmod, nzx, if_tt, if_ff, bz_n1, bz_n0, nm1, nm2, wI_p, wI_inj, wI_n, nI_w, wI_ltI, wI_leI, nI_ltw, nI_lew, reduceIte, hsh υ hυ, u0R hυ, rwN_a, bits_eq hH.2.2.1]
      · refine ok (nI (cnt (fun p => decide (R (661 + p) = h)) (R 2))) ?_ (fun υ hυ => ?_)
        · unfold f_X10_shape f_X10_shape_0
          simp (disch := omega) only [bind_s, sum_l, sum_r, chkin, lit, nI_add, pk_mul, nI_clamp, nI_leI, nI_ltI, nI_eqI, nI_or, and1, shl1, shrx, nI_subx, pk_divx, pk_remx, nmod, nzx, if_tt, if_ff, bz_n1, bz_n0, nm1, nm2, wI_p, wI_inj, wI_n, nI_w, wI_ltI, wI_leI, nI_ltw, nI_lew, reduceIte, ckH_in c.1 G hh, hrw']
        · unfold f_X11_shape f_X11_shape_0
          simp (disch := omega) only [bind_s, sum_l, sum_r, chkin, lit, nI_add, pk_mul, nI_clamp, nI_leI, nI_ltI, nI_eqI, nI_or, and1, shl1, shrx, nI_subx, pk_divx, pk_remx, nmod, nzx, if_tt, if_ff, bz_n1, bz_n0, nm1, nm2, wI_p, wI_inj, wI_n, nI_w, wI_ltI, wI_leI, nI_ltw, nI_lew, reduceIte, hsh υ hυ, (partsOn_eq (u0R hυ (nI 0)) G (v := h) (by omega)).2]
      · refine ok (nI (cnt (fun t => !ex (alk R h t) t) 4)) ?_ (fun υ hυ => ?_)
        · unfold f_X10_shape f_X10_shape_0
          simp (disch := omega) only [bind_s, sum_l, sum_r, chkin, lit, nI_add, pk_mul, nI_clamp, nI_leI, nI_ltI, nI_eqI, nI_or, and1, shl1, shrx, nI_subx, pk_divx, pk_remx, nmod, nzx, if_tt, if_ff, bz_n1, bz_n0, nm1, nm2, wI_p, wI_inj, wI_n, nI_w, wI_ltI, wI_leI, nI_ltw, nI_lew, reduceIte, ckH_in c.1 G hh, hdf]
        · unfold f_X11_shape f_X11_shape_0
          simp (disch := omega) only [bind_s, sum_l, sum_r, chkin, lit, nI_add, pk_mul, nI_clamp, nI_leI, nI_ltI, nI_eqI, nI_or, and1, shl1, shrx, nI_subx, pk_divx, pk_remx, nmod, nzx, if_tt, if_ff, bz_n1, bz_n0, nm1, nm2, wI_p, wI_inj, wI_n, nI_w, wI_ltI, wI_leI, nI_ltw, nI_lew, reduceIte, hsh υ hυ, diffR_eq (u0R hυ (nI 0)) G hh]
    · refine step_no I0 (L_shape_2 ?_) (by decide) ?_
      · unfold f_X10_shape f_X10_shape_0
        simp (disch := omega) only [bind_s, sum_l, sum_r, chkin, lit, nI_add, pk_mul, nI_clamp, nI_leI, nI_ltI, nI_eqI, nI_or, and1, shl1, shrx, nI_subx, pk_divx, pk_remx, nmod, nzx, if_tt, if_ff, bz_n1, bz_n0, nm1, nm2, wI_p, wI_inj, wI_n, nI_w, wI_ltI, wI_leI, nI_ltw, nI_lew, reduceIte, ckH_in c.1 G hh, hw, if_false]
      · unfold f_X11_shape f_X11_shape_0
        simp (disch := omega) only [bind_s, sum_l, sum_r, chkin, lit, nI_add, pk_mul, nI_clamp, nI_leI, nI_ltI, nI_eqI, nI_or, and1, shl1, shrx, nI_subx, pk_divx, pk_remx, nmod, nzx, if_tt, if_ff, bz_n1, bz_n0, nm1, nm2, wI_p, wI_inj, wI_n, nI_w, wI_ltI, wI_leI, nI_ltw, nI_lew, reduceIte, isShape_in (u0R hR _) G hh, hw, if_false, fails_eq]
  · refine step_no I0 (L_shape_1 ?_) (by decide) ?_
    · unfold f_X10_shape f_X10_shape_0
      simp (disch := omega) only [bind_s, sum_l, sum_r, chkin, lit, nI_add, pk_mul, nI_clamp, nI_leI, nI_ltI, nI_eqI, nI_or, and1, shl1, shrx, nI_subx, pk_divx, pk_remx, nmod, nzx, if_tt, if_ff, bz_n1, bz_n0, nm1, nm2, wI_p, wI_inj, wI_n, nI_w, wI_ltI, wI_leI, nI_ltw, nI_lew, reduceIte, ckH_out c.1 hx]
    · unfold f_X11_shape f_X11_shape_0
      simp (disch := omega) only [bind_s, sum_l, sum_r, chkin, lit, nI_add, pk_mul, nI_clamp, nI_leI, nI_ltI, nI_eqI, nI_or, and1, shl1, shrx, nI_subx, pk_divx, pk_remx, nmod, nzx, if_tt, if_ff, bz_n1, bz_n0, nm1, nm2, wI_p, wI_inj, wI_n, nI_w, wI_ltI, wI_leI, nI_ltw, nI_lew, reduceIte, isShape_out (u0R hR _) G hx, fails_eq]
theorem call_take (I : Inv σ) (x1 : Int32) : Step (f_L_take x1) (f_X11_take x1) σ := by
  have I0 := I
  obtain ⟨R, n, H, hv, V, len, tx, nr, rk, rp, nf, fk, fp, G, S, c, cx, r, rx⟩ := I
  have hR := r.1
  have g2 := G.2.2.1
  rcases int_n x1 (n := R 2) (by omega) with ⟨p, hp, rfl⟩ | hx
  · have hP := GP G hp
    have hst := (GH G (G.2.2.2.2.2.1 p hp).1).2.2.2.2
    have G' := rTake_G G hp
    have v2 := (rTake_n G hp).1
    refine step_change (R' := rTake R p) (v := nI (R 2 - 1)) (υ := σ) G G' S c cx r rx (Fc_r σ) (fun τ cτ hpu => ?_) (fun τ rτ => ?_)
    · obtain ⟨τ2, m1, m2, m3⟩ := removePart_eq cτ.1 G hp
      refine ⟨τ2, L_take_0 ?_, m2, fun a h1 _ => m3 a (by omega)⟩
      have hsz : f_X9_size 6 τ2 = some (nI (R 2 - 1)) := by
        rw [size_eq]
        have : τ2 6 2 = nI (rTake R p 2) := m2.2.1.2.2.2.2.2
        rw [this, v2]
      unfold f_X10_take f_X10_take_0
      simp (disch := omega) only [bind_s, sum_l, sum_r, chkin, lit, nI_add, pk_mul, nI_clamp, nI_leI, nI_ltI, nI_eqI, nI_or, and1, shl1, shrx, nI_subx, pk_divx, pk_remx, nmod, nzx, if_tt, if_ff, bz_n1, bz_n0, nm1, nm2, wI_p, wI_inj, wI_n, nI_w, wI_ltI, wI_leI, nI_ltw, nI_lew, reduceIte, ckP_in c.1 G hp, hpu, m1, hsz]
    · refine ⟨up τ 101 0 (nI 0), u0F _ _, up_s .., fun τ2 ch hR3 _ _ => ⟨τ2, upA τ2 102 (rwN (rTake R p)), Fr_r _, rfl, ?_, upA_same .., fun a ha => upA_ne _ _ ha⟩⟩
      unfold f_X11_take f_X11_take_0
      have t0 := fun s0 h => takeR_eq (s0 := s0) hR3 G hp h
      simp (disch := omega) only [bind_s, sum_l, sum_r, chkin, lit, nI_add, pk_mul, nI_clamp, nI_leI, nI_ltI, nI_eqI, nI_or, and1, shl1, shrx, nI_subx, pk_divx, pk_remx, nmod, nzx, if_tt, if_ff, bz_n1, bz_n0, nm1, nm2, wI_p, wI_inj, wI_n, nI_w, wI_ltI, wI_leI, nI_ltw, nI_lew, reduceIte, isPart_in (u0R rτ.1 _) G hp, ch, hR3, rwN_a]
      by_cases e : 99 ≤ R (653 + R (661 + p))
      · rw [if_pos e]
        exact t0 0 (by omega)
      · rw [if_neg e]
        exact t0 1 (by omega)
  · refine step_no I0 (L_take_1 ?_) (by decide) ?_
    · unfold f_X10_take f_X10_take_0
      simp (disch := omega) only [bind_s, sum_l, sum_r, chkin, lit, nI_add, pk_mul, nI_clamp, nI_leI, nI_ltI, nI_eqI, nI_or, and1, shl1, shrx, nI_subx, pk_divx, pk_remx, nmod, nzx, if_tt, if_ff, bz_n1, bz_n0, nm1, nm2, wI_p, wI_inj, wI_n, nI_w, wI_ltI, wI_leI, nI_ltw, nI_lew, reduceIte, ckP_out c.1 hx]
    · unfold f_X11_take f_X11_take_0
      simp (disch := omega) only [bind_s, sum_l, sum_r, chkin, lit, nI_add, pk_mul, nI_clamp, nI_leI, nI_ltI, nI_eqI, nI_or, and1, shl1, shrx, nI_subx, pk_divx, pk_remx, nmod, nzx, if_tt, if_ff, bz_n1, bz_n0, nm1, nm2, wI_p, wI_inj, wI_n, nI_w, wI_ltI, wI_leI, nI_ltw, nI_lew, reduceIte, isPart_out (u0R hR _) G hx, fails_eq]
