/-! PURE FACTS, 27: the simple calls -/
variable {k n len nr nf : Nat} {R V tx : Nat → Nat} {H : Nat → Nat → Nat} {hv : Bool} {rk rp fk fp : Nat → Int32} {σ τ : St}
theorem rng (x : Int32) {a b : Nat} (ha : a < 2 ^ 20) (hb : b < 2 ^ 20) : (∃ j, a ≤ j ∧ j ≤ b ∧ x = nI j) ∨ (x < nI a ∨ nI b < x) := by
  by_cases h : x < 0
  · right; left
    rw [Int32.lt_iff_toInt_lt] at *
    rw [nI_toInt (by omega)]
    have : (0 : Int32).toInt = 0 := by decide
    omega
  · obtain ⟨j, hj, rfl⟩ := nI_of h
    by_cases h1 : a ≤ j
    · by_cases h2 : j ≤ b
      · exact Or.inl ⟨j, h1, h2, rfl⟩
      · exact Or.inr (Or.inr (nI_lt (by omega) hj))
    · exact Or.inr (Or.inl (nI_lt (by omega) (by omega)))
theorem wi_in {j a b : Nat} (h1 : a ≤ j) (h2 : j ≤ b) (hb : b < 2 ^ 20) : f_X10_isWithin (nI j) (nI a) (nI b) = some (nI 1) := by
  rw [within_eq, if_neg]
  · rfl
  · rw [nI_ltI (by omega) (by omega), nI_ltI (by omega) (by omega)]
    omega
theorem wi_out {x : Int32} {a b : Nat} (h : x < nI a ∨ nI b < x) : f_X10_isWithin x (nI a) (nI b) = some (nI 0) := by
  rw [within_eq, if_pos h]
  rfl
theorem ri_in {j a b : Nat} (h1 : a ≤ j) (h2 : j ≤ b) (hb : b < 2 ^ 20) : f_X11_in (nI j) (nI a) (nI b) = some (nI 1) := by
  rw [in_eq, if_neg]
  · rfl
  · rw [nI_ltI (by omega) (by omega), nI_ltI (by omega) (by omega)]
    omega
theorem ri_out {x : Int32} {a b : Nat} (h : x < nI a ∨ nI b < x) : f_X11_in x (nI a) (nI b) = some (nI 0) := by
  rw [in_eq, if_pos h]
  rfl
theorem n01 : (nI 0 = nI 1) = False := eq_false (by decide)
theorem n10' : (nI 1 = nI 0) = False := eq_false (by decide)
theorem nn0 : (nI 0 = nI 0) = True := eq_self _
theorem out_ne {x : Int32} {N : Nat} (h : x < 0 ∨ (¬ x < 0 ∧ nI N ≤ x)) (hN : N < 2 ^ 20) {j : Nat} (hj : j < N) : (x = nI j) = False := by
  apply eq_false
  rintro rfl
  rcases h with h | ⟨_, h⟩
  · exact nI_nlt0 (by omega) h
  · exact nI_ge hj (by omega) h
theorem thr0 (τ : St) : f_X11_thrown τ = some (τ 101 0) := rfl
theorem fails_eq (c : Int32) (σ : St) : f_X11_fails c σ = some (0, up σ 101 0 c) := rfl
theorem u0R (hR : σ 102 = rwN R) (v : Int32) : (up σ 101 0 v) 102 = rwN R := by rw [up_k _ _ _ (by decide), hR]
theorem u0F (σ : St) (v : Int32) : Fr σ (up σ 101 0 v) := Fr_up1 σ v (by decide)
theorem u0v (σ : St) (v : Int32) : (up σ 101 0 v) 101 0 = v := up_s ..
theorem refuse_ok (σ : St) (c : Int32) : Fr σ (up (up σ 101 0 0) 101 0 c) ∧ (up (up σ 101 0 0) 101 0 c) 101 0 = c := ⟨Fr_t (u0F _ _) (u0F _ _), up_s ..⟩
/-- a call that is refused at once -/
theorem step_no {f g : St → Option (Int32 × St)} {c : Int32} (I : Inv σ) (hf : f σ = some (c, σ)) (hc : c ≠ 0) (hg : g σ = some (0, up (up σ 101 0 0) 101 0 c)) : Step f g σ :=
  step_ask I hf (Fc_r σ) ⟨_, hg, refuse_ok σ c⟩ (fun e => absurd e hc)
theorem call_addSheet (I : Inv σ) (x1 x2 x3 : Int32) : Step (f_L_addSheet x1 x2 x3) (f_X11_addSheet x1 x2 x3) σ := by
  have I0 := I
  obtain ⟨R, n, H, hv, V, len, tx, nr, rk, rp, nf, fk, fp, G, S, c, cx, r, rx⟩ := I
  have hR := r.1
  have bad : (f_X11_isSheetForm x1 x2 x3 = some (nI 0)) → (f_X10_addSheet x1 x2 x3 σ = some (.inl ("java/lang/IllegalArgumentException", σ))) → Step (f_L_addSheet x1 x2 x3) (f_X11_addSheet x1 x2 x3) σ := fun h1 h2 => by
    refine step_no I0 (L_addSheet_1 h2) (by decide) ?_
    unfold f_X11_addSheet f_X11_addSheet_0
    simp (disch := omega) only [bind_s, sum_l, sum_r, chkin, lit, nI_add, pk_mul, nI_clamp, nI_leI, nI_ltI, nI_eqI, nI_or, and1, shl1, shrx, nI_subx, pk_divx, pk_remx, nmod, nzx, if_tt, if_ff, bz_n1, bz_n0, nm1, nm2, wI_p, wI_inj, wI_n, nI_w, wI_ltI, wI_leI, nI_ltw, nI_lew, reduceIte, h1, fails_eq]
  rcases rng x1 (a := 2) (b := 10) (by decide) (by decide) with ⟨a, a1, a2, rfl⟩ | h
  · rcases rng x2 (a := 2) (b := 10) (by decide) (by decide) with ⟨b, b1, b2, rfl⟩ | h
    · rcases rng x3 (a := 0) (b := 2) (by decide) (by decide) with ⟨d, d1, d2, rfl⟩ | h
      · have hform : f_X11_isSheetForm (nI a) (nI b) (nI d) = some (nI 1) := by
          unfold f_X11_isSheetForm f_X11_isSheetForm_0
          simp only [lit, ri_in a1 a2, ri_in b1 b2, ri_in d1 d2, bind_s, n10', if_false]
          simp (disch := omega) only [bind_s, sum_l, sum_r, chkin, lit, nI_add, pk_mul, nI_clamp, nI_leI, nI_ltI, nI_eqI, nI_or, and1, shl1, shrx, nI_subx, pk_divx, pk_remx, nmod, nzx, if_tt, if_ff, bz_n1, bz_n0, nm1, nm2, wI_p, wI_inj, wI_n, nI_w, wI_ltI, wI_leI, nI_ltw, nI_lew, reduceIte, ri_in]
        have hside : ∀ q, 2 ≤ q → q ≤ 10 → f_X10_isSheetSide (nI q) = some (nI 1) := fun q q1 q2 => by
          unfold f_X10_isSheetSide f_X10_isSheetSide_0
          simp (disch := omega) only [bind_s, sum_l, sum_r, chkin, lit, nI_add, pk_mul, nI_clamp, nI_leI, nI_ltI, nI_eqI, nI_or, and1, shl1, shrx, nI_subx, pk_divx, pk_remx, nmod, nzx, if_tt, if_ff, bz_n1, bz_n0, nm1, nm2, wI_p, wI_inj, wI_n, nI_w, wI_ltI, wI_leI, nI_ltw, nI_lew, reduceIte, wi_in q1 q2]
        by_cases e : R 0 = 6
        · have hful : f_X9_isFull 2 σ = some 1 := by
            have := full_eq (t := 2) (lim := 6) c.1.2.1.1 c.1.2.1.2.1 c.1.1.1 (by decide) (by decide) G.1 (by decide)
            rw [if_pos e] at this
            exact this
          refine step_no I0 (L_addSheet_2 ?_) (by decide) ?_
          · unfold f_X10_addSheet f_X10_addSheet_0
            simp (disch := omega) only [bind_s, sum_l, sum_r, chkin, lit, nI_add, pk_mul, nI_clamp, nI_leI, nI_ltI, nI_eqI, nI_or, and1, shl1, shrx, nI_subx, pk_divx, pk_remx, nmod, nzx, if_tt, if_ff, bz_n1, bz_n0, nm1, nm2, wI_p, wI_inj, wI_n, nI_w, wI_ltI, wI_leI, nI_ltw, nI_lew, reduceIte, hside a a1 a2, hside b b1 b2, wi_in d1 d2, hful]
          · unfold f_X11_addSheet f_X11_addSheet_0
            simp (disch := omega) only [bind_s, sum_l, sum_r, chkin, lit, nI_add, pk_mul, nI_clamp, nI_leI, nI_ltI, nI_eqI, nI_or, and1, shl1, shrx, nI_subx, pk_divx, pk_remx, nmod, nzx, if_tt, if_ff, bz_n1, bz_n0, nm1, nm2, wI_p, wI_inj, wI_n, nI_w, wI_ltI, wI_leI, nI_ltw, nI_lew, reduceIte, hform, u0R hR, rwN_a, e, fails_eq]
        · have h0 : R 0 < 6 := by have := G.1; omega
          have G' := rSheet_G (u := fun _ => 1) G h0 ⟨a1, a2⟩ ⟨b1, b2⟩ d2 (fun _ _ => Nat.le_refl _)
          refine step_change (R' := rSheet R a b d (fun _ => 1)) (v := nI (R 0)) (υ := σ) G G' S c cx r rx (Fc_r σ) (fun τ cτ hp => ?_) (fun τ rτ => ?_)
          · have hful : f_X9_isFull 2 σ = some 0 := by
              have := full_eq (t := 2) (lim := 6) c.1.2.1.1 c.1.2.1.2.1 c.1.1.1 (by decide) (by decide) G.1 (by decide)
              rw [if_neg e] at this
              exact this
            obtain ⟨τ2, m1, m2, m3⟩ := createSheet_eq (d := 1) cτ.1 G h0 ⟨a1, a2⟩ ⟨b1, b2⟩ d2 (Nat.le_refl _)
            refine ⟨τ2, L_addSheet_0 ?_, m2, fun a h1 _ => m3 a (by omega) (by omega)⟩
            unfold f_X10_addSheet f_X10_addSheet_0
            simp (disch := omega) only [bind_s, sum_l, sum_r, chkin, lit, nI_add, pk_mul, nI_clamp, nI_leI, nI_ltI, nI_eqI, nI_or, and1, shl1, shrx, nI_subx, pk_divx, pk_remx, nmod, nzx, if_tt, if_ff, bz_n1, bz_n0, nm1, nm2, wI_p, wI_inj, wI_n, nI_w, wI_ltI, wI_leI, nI_ltw, nI_lew, reduceIte, hside a a1 a2, hside b b1 b2, wi_in d1 d2, hful, hp, m1]
          · refine ⟨up τ 101 0 0, u0F _ _, u0v _ _, fun τ2 ch hR2 _ _ => ⟨τ2, upA τ2 102 (rwN (rSheet R a b d (fun _ => 1))), Fr_r _, rfl, ?_, upA_same .., fun a ha => upA_ne _ _ ha⟩⟩
            have ch' : f_X11_changes (up τ 101 0 (nI 0)) = some τ2 := ch
            unfold f_X11_addSheet f_X11_addSheet_0
            simp (disch := omega) only [bind_s, sum_l, sum_r, chkin, lit, nI_add, pk_mul, nI_clamp, nI_leI, nI_ltI, nI_eqI, nI_or, and1, shl1, shrx, nI_subx, pk_divx, pk_remx, nmod, nzx, if_tt, if_ff, bz_n1, bz_n0, nm1, nm2, wI_p, wI_inj, wI_n, nI_w, wI_ltI, wI_leI, nI_ltw, nI_lew, reduceIte, hform, u0R rτ.1, rwN_a, ch', makesSheet_eq hR2 h0]
      · refine bad ?_ ?_
        · unfold f_X11_isSheetForm f_X11_isSheetForm_0
          simp (disch := omega) only [bind_s, sum_l, sum_r, chkin, lit, nI_add, pk_mul, nI_clamp, nI_leI, nI_ltI, nI_eqI, nI_or, and1, shl1, shrx, nI_subx, pk_divx, pk_remx, nmod, nzx, if_tt, if_ff, bz_n1, bz_n0, nm1, nm2, wI_p, wI_inj, wI_n, nI_w, wI_ltI, wI_leI, nI_ltw, nI_lew, reduceIte, ri_in a1 a2, ri_in b1 b2, ri_out h]
        · unfold f_X10_addSheet f_X10_addSheet_0 f_X10_addSheet_j23 f_X10_isSheetSide f_X10_isSheetSide_0
          simp (disch := omega) only [bind_s, sum_l, sum_r, chkin, lit, nI_add, pk_mul, nI_clamp, nI_leI, nI_ltI, nI_eqI, nI_or, and1, shl1, shrx, nI_subx, pk_divx, pk_remx, nmod, nzx, if_tt, if_ff, bz_n1, bz_n0, nm1, nm2, wI_p, wI_inj, wI_n, nI_w, wI_ltI, wI_leI, nI_ltw, nI_lew, reduceIte, wi_in a1 a2, wi_in b1 b2, wi_out h]
    · refine bad ?_ ?_
      · unfold f_X11_isSheetForm f_X11_isSheetForm_0
        simp (disch := omega) only [bind_s, sum_l, sum_r, chkin, lit, nI_add, pk_mul, nI_clamp, nI_leI, nI_ltI, nI_eqI, nI_or, and1, shl1, shrx, nI_subx, pk_divx, pk_remx, nmod, nzx, if_tt, if_ff, bz_n1, bz_n0, nm1, nm2, wI_p, wI_inj, wI_n, nI_w, wI_ltI, wI_leI, nI_ltw, nI_lew, reduceIte, ri_in a1 a2, ri_out h]
      · unfold f_X10_addSheet f_X10_addSheet_0 f_X10_addSheet_j23 f_X10_isSheetSide f_X10_isSheetSide_0
        simp (disch := omega) only [bind_s, sum_l, sum_r, chkin, lit, nI_add, pk_mul, nI_clamp, nI_leI, nI_ltI, nI_eqI, nI_or, and1, shl1, shrx, nI_subx, pk_divx, pk_remx, nmod, nzx, if_tt, if_ff, bz_n1, bz_n0, nm1, nm2, wI_p, wI_inj, wI_n, nI_w, wI_ltI, wI_leI, nI_ltw, nI_lew, reduceIte, wi_in a1 a2, wi_out h]
  · refine bad ?_ ?_
    · unfold f_X11_isSheetForm f_X11_isSheetForm_0
      simp (disch := omega) only [bind_s, sum_l, sum_r, chkin, lit, nI_add, pk_mul, nI_clamp, nI_leI, nI_ltI, nI_eqI, nI_or, and1, shl1, shrx, nI_subx, pk_divx, pk_remx, nmod, nzx, if_tt, if_ff, bz_n1, bz_n0, nm1, nm2, wI_p, wI_inj, wI_n, nI_w, wI_ltI, wI_leI, nI_ltw, nI_lew, reduceIte, ri_out h]
    · unfold f_X10_addSheet f_X10_addSheet_0 f_X10_addSheet_j23 f_X10_isSheetSide f_X10_isSheetSide_0
      simp (disch := omega) only [bind_s, sum_l, sum_r, chkin, lit, nI_add, pk_mul, nI_clamp, nI_leI, nI_ltI, nI_eqI, nI_or, and1, shl1, shrx, nI_subx, pk_divx, pk_remx, nmod, nzx, if_tt, if_ff, bz_n1, bz_n0, nm1, nm2, wI_p, wI_inj, wI_n, nI_w, wI_ltI, wI_leI, nI_ltw, nI_lew, reduceIte, wi_out h]
